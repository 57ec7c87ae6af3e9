def rm_X12_isSure : Room := { frames := 6, cells := 0, slots := 0, locals := 214 }
theorem wc_X12_isBetter : Cond.code yX12_isBetter cX12_isBetter 6 (some .boolean) ∈ GT := gtr_43 _ (List.mem_of_getElem? (i := 5) rfl)
theorem gc_X12_323 : GoodIn GT (wsV RX12 323 RX12 yX12_isBetter w_X12_isBetter) := gi_V (gtr_43 _ (List.mem_of_getElem? (i := 2) rfl)) (gtr_43 _ (List.mem_of_getElem? (i := 3) rfl)) (gtr_43 _ (List.mem_of_getElem? (i := 4) rfl)) (gtr_1 _ (List.mem_of_getElem? (i := 5) rfl)) wc_X12_isBetter
set_option maxHeartbeats 4000000 in
set_option maxRecDepth 100000 in
theorem k_X12_isSure_47 {E : ET} {F : FT} {fo : Option (Int32 × HS)} (hC : Cx E F 5 cX12_isSure RX12 GT) (hO : Ro F rm_X12_isSure) (hR : RI E F .boolean fo) (hf : fo ≠ none) (t : Nat) (ht1 : kd t = 12) (ht2 : AL E t) (x1 : Int32) (x2 : Int32) (x4 : Int32) (s0 : Int32) (r5 : Int32 → Int32 → HS → Option (Int32 × HS)) (h5 : ∀ (x3 : Int32) (x4 : Int32) (σ : HS), r5 x3 x4 σ = fo → G E F 5 [(0, .ref (E.2.2.1 t)), (1, .int x1), (2, .int x2), (3, .int x3), (4, .int x4)] [] σ) (σ : HS) (h : f_X12_isSure_47 r5 t x1 x2 x4 s0 σ = fo) : G E F 47 [(0, .ref (E.2.2.1 t)), (1, .int x1), (2, .int x2), (4, .int x4)] [.int s0] σ := by
    refine g_istore_n (lv' := [(3, .int s0), (0, .ref (E.2.2.1 t)), (1, .int x1), (2, .int x2), (4, .int x4)]) hC dX12_isSure_47 rfl (by decide) rfl ?_
    refine g_iinc (v := x4 + 1) (lv' := [(4, .int (x4 + 1)), (3, .int s0), (0, .ref (E.2.2.1 t)), (1, .int x1), (2, .int x2)]) hC dX12_isSure_48 4 rfl rfl (by decide) rfl ?_
    refine g_goto (tgt := 5) hC dX12_isSure_51 (by decide) ?_
    exact g_sub [2, 3, 4, 1, 0] rfl (h5 s0 (x4 + 1) σ h)
set_option maxHeartbeats 4000000 in
set_option maxRecDepth 100000 in
theorem k_X12_isSure_46 {E : ET} {F : FT} {fo : Option (Int32 × HS)} (hC : Cx E F 5 cX12_isSure RX12 GT) (hO : Ro F rm_X12_isSure) (hR : RI E F .boolean fo) (hf : fo ≠ none) (t : Nat) (ht1 : kd t = 12) (ht2 : AL E t) (x1 : Int32) (x2 : Int32) (x4 : Int32) (r5 : Int32 → Int32 → HS → Option (Int32 × HS)) (h5 : ∀ (x3 : Int32) (x4 : Int32) (σ : HS), r5 x3 x4 σ = fo → G E F 5 [(0, .ref (E.2.2.1 t)), (1, .int x1), (2, .int x2), (3, .int x3), (4, .int x4)] [] σ) (σ : HS) (h : f_X12_isSure_46 r5 t x1 x2 x4 σ = fo) : G E F 46 [(0, .ref (E.2.2.1 t)), (1, .int x1), (2, .int x2), (4, .int x4)] [] σ := by
    refine g_iconst (v := 0) hC dX12_isSure_46 (by decide) ?_
    exact g_sub [0, 1, 2, 3] rfl (k_X12_isSure_47 hC hO hR hf t ht1 ht2 x1 x2 x4 0 r5 h5 σ h)
set_option maxHeartbeats 4000000 in
set_option maxRecDepth 100000 in
theorem k_X12_isSure_42 {E : ET} {F : FT} {fo : Option (Int32 × HS)} (hC : Cx E F 5 cX12_isSure RX12 GT) (hO : Ro F rm_X12_isSure) (hR : RI E F .boolean fo) (hf : fo ≠ none) (t : Nat) (ht1 : kd t = 12) (ht2 : AL E t) (x1 : Int32) (x2 : Int32) (x4 : Int32) (r5 : Int32 → Int32 → HS → Option (Int32 × HS)) (h5 : ∀ (x3 : Int32) (x4 : Int32) (σ : HS), r5 x3 x4 σ = fo → G E F 5 [(0, .ref (E.2.2.1 t)), (1, .int x1), (2, .int x2), (3, .int x3), (4, .int x4)] [] σ) (σ : HS) (h : f_X12_isSure_42 r5 t x1 x2 x4 σ = fo) : G E F 42 [(0, .ref (E.2.2.1 t)), (1, .int x1), (2, .int x2), (4, .int x4)] [] σ := by
    refine g_iconst (v := 1) hC dX12_isSure_42 (by decide) ?_
    refine g_goto (tgt := 47) hC dX12_isSure_43 (by decide) ?_
    exact g_sub [0, 1, 2, 3] rfl (k_X12_isSure_47 hC hO hR hf t ht1 ht2 x1 x2 x4 1 r5 h5 σ h)
set_option maxHeartbeats 4000000 in
set_option maxRecDepth 100000 in
theorem k_X12_isSure_5 {E : ET} {F : FT} {fo : Option (Int32 × HS)} (hC : Cx E F 5 cX12_isSure RX12 GT) (hO : Ro F rm_X12_isSure) (hR : RI E F .boolean fo) (hf : fo ≠ none) (t : Nat) (ht1 : kd t = 12) (ht2 : AL E t) (x1 : Int32) (x2 : Int32) : ∀ (n : Nat) (x3 : Int32) (x4 : Int32) (σ : HS), f_X12_isSure_5 t x1 x2 n x3 x4 σ = fo → G E F 5 [(0, .ref (E.2.2.1 t)), (1, .int x1), (2, .int x2), (3, .int x3), (4, .int x4)] [] σ := by
  intro n
  induction n with
  | zero =>
    intro x3 x4 σ h
    exact absurd (h.symm.trans rfl) hf
  | succ n ih =>
    intro x3 x4 σ h
    refine g_iload hC dX12_isSure_5 4 rfl ?_
    refine g_bipush (v := 8) hC dX12_isSure_7 (by decide) ?_
    refine g_icmp_ge (tgt := 54) hC dX12_isSure_9 (by decide) h (fun c9 h => ?_) (fun c9 h => ?_)
    · refine g_iload_n hC dX12_isSure_54 rfl 3 rfl ?_
      obtain ⟨hz, h⟩ := zr_of h hf
      exact g_iret hC hR dX12_isSure_55 hz h
    · refine g_iload_n hC dX12_isSure_12 rfl 3 rfl ?_
      refine g_if_eq (tgt := 46) hC dX12_isSure_13 (by decide) h (fun c13 h => ?_) (fun c13 h => ?_)
      · exact g_sub [0, 1, 2, 4] rfl (k_X12_isSure_46 hC hO hR hf t ht1 ht2 x1 x2 x4 (f_X12_isSure_5 t x1 x2 n) ih σ h)
      · refine g_iload hC dX12_isSure_16 4 rfl ?_
        refine g_iload_n hC dX12_isSure_18 rfl 1 rfl ?_
        refine g_icmp_eq (tgt := 42) hC dX12_isSure_19 (by decide) h (fun c19 h => ?_) (fun c19 h => ?_)
        · exact g_sub [0, 1, 2, 4] rfl (k_X12_isSure_42 hC hO hR hf t ht1 ht2 x1 x2 x4 (f_X12_isSure_5 t x1 x2 n) ih σ h)
        · refine g_aload_n hC dX12_isSure_22 rfl 0 rfl ?_
          refine g_iload hC dX12_isSure_23 4 rfl ?_
          obtain ⟨q1, hq1, h⟩ := bd_of h hf
          refine g_cVI (As := [.int x4]) hC hO (c_X12_isIn _ hC.2.2.2.2.2.2.1 t ht1 ht2 x4 σ (nn_of hq1)) gc_X12_223 (xk_X12_isIn _ (Nat.le_of_ble_eq_true rfl) (Nat.le_of_ble_eq_true rfl)) cr12 ht1 ht2 rfl (Nat.le_of_ble_eq_true rfl) dX12_isSure_25 hq1 ?_
          refine g_if_eq (tgt := 42) hC dX12_isSure_28 (by decide) h (fun c28 h => ?_) (fun c28 h => ?_)
          · exact g_sub [0, 1, 2, 4] rfl (k_X12_isSure_42 hC hO hR hf t ht1 ht2 x1 x2 x4 (f_X12_isSure_5 t x1 x2 n) ih q1.2 h)
          · refine g_aload_n hC dX12_isSure_31 rfl 0 rfl ?_
            refine g_iload_n hC dX12_isSure_32 rfl 1 rfl ?_
            refine g_iload hC dX12_isSure_33 4 rfl ?_
            refine g_iload_n hC dX12_isSure_35 rfl 2 rfl ?_
            obtain ⟨q2, hq2, h⟩ := bd_of h hf
            refine g_cVI (As := [.int x1, .int x4, .int x2]) hC hO (c_X12_isBetter _ hC.2.2.2.2.2.2.1 t ht1 ht2 x1 x4 x2 q1.2 (nn_of hq2)) gc_X12_323 (xk_X12_isBetter _ (Nat.le_of_ble_eq_true rfl) (Nat.le_of_ble_eq_true rfl)) cr12 ht1 ht2 rfl (Nat.le_of_ble_eq_true rfl) dX12_isSure_36 hq2 ?_
            refine g_if_eq (tgt := 46) hC dX12_isSure_39 (by decide) h (fun c39 h => ?_) (fun c39 h => ?_)
            · exact g_sub [0, 1, 2, 4] rfl (k_X12_isSure_46 hC hO hR hf t ht1 ht2 x1 x2 x4 (f_X12_isSure_5 t x1 x2 n) ih q2.2 h)
            · exact g_sub [0, 1, 2, 4] rfl (k_X12_isSure_42 hC hO hR hf t ht1 ht2 x1 x2 x4 (f_X12_isSure_5 t x1 x2 n) ih q2.2 h)
set_option maxHeartbeats 4000000 in
set_option maxRecDepth 100000 in
theorem k_X12_isSure_0 {E : ET} {F : FT} {fo : Option (Int32 × HS)} (hC : Cx E F 5 cX12_isSure RX12 GT) (hO : Ro F rm_X12_isSure) (hR : RI E F .boolean fo) (hf : fo ≠ none) (t : Nat) (ht1 : kd t = 12) (ht2 : AL E t) (x1 : Int32) (x2 : Int32) (σ : HS) (h : f_X12_isSure t x1 x2 σ = fo) : G E F 0 [(0, .ref (E.2.2.1 t)), (1, .int x1), (2, .int x2)] [] σ := by
    refine g_iconst (v := 1) hC dX12_isSure_0 (by decide) ?_
    refine g_istore_n (lv' := [(3, .int 1), (0, .ref (E.2.2.1 t)), (1, .int x1), (2, .int x2)]) hC dX12_isSure_1 rfl (by decide) rfl ?_
    refine g_iconst (v := 0) hC dX12_isSure_2 (by decide) ?_
    refine g_istore (lv' := [(4, .int 0), (3, .int 1), (0, .ref (E.2.2.1 t)), (1, .int x1), (2, .int x2)]) hC dX12_isSure_3 (by decide) rfl ?_
    exact g_sub [2, 3, 4, 1, 0] rfl (k_X12_isSure_5 hC hO hR hf t ht1 ht2 x1 x2 FU 1 0 σ h)
theorem xk_X12_isSure (R : Room) (h1 : 6 + 1 ≤ R.frames) (h2 : 250 ≤ R.locals) : xw R yX12_isSure w_X12_isSure GT cX12_isSure 5 (some .boolean) rm_X12_isSure 2 := ⟨rfl, rfl, rfl, h1, h2, ⟨by decide, by decide⟩, by decide +kernel⟩
theorem c_X12_isSure (E : ET) (hE : EO E) (t : Nat) (ht1 : kd t = 12) (ht2 : AL E t) (x1 : Int32) (x2 : Int32) (σ : HS) (hn : f_X12_isSure t x1 x2 σ ≠ none) : CoI E yX12_isSure w_X12_isSure rm_X12_isSure [.ref (E.2.2.1 t), .int x1, .int x2] σ (f_X12_isSure t x1 x2 σ) := CoI.of (lv := [(0, .ref (E.2.2.1 t)), (1, .int x1), (2, .int x2)]) hE (plainFor_of_name (by decide)) rfl (Nat.le_of_ble_eq_true rfl) rfl (fun F hC hO hR => k_X12_isSure_0 hC hO hR hn t ht1 ht2 x1 x2 σ rfl)
def rm_X12_soonMay : Room := { frames := 5, cells := 0, slots := 0, locals := 177 }
set_option maxHeartbeats 4000000 in
set_option maxRecDepth 100000 in
theorem k_X12_soonMay_221 {E : ET} {F : FT} {fo : Option (Int32 × HS)} (hC : Cx E F 8 cX12_soonMay RX12 GT) (hO : Ro F rm_X12_soonMay) (hR : RI E F .int fo) (hf : fo ≠ none) (s0 : Int32) (σ : HS) (h : f_X12_soonMay_221 s0 σ = fo) : G E F 221 [] [.int s0] σ := by
    exact g_iret hC hR dX12_soonMay_221 rfl h
set_option maxHeartbeats 4000000 in
set_option maxRecDepth 100000 in
theorem k_X12_soonMay_195 {E : ET} {F : FT} {fo : Option (Int32 × HS)} (hC : Cx E F 8 cX12_soonMay RX12 GT) (hO : Ro F rm_X12_soonMay) (hR : RI E F .int fo) (hf : fo ≠ none) (t : Nat) (ht1 : kd t = 12) (ht2 : AL E t) (x1 : Int32) (x2 : Int32) (x3 : Int32) (x5 : Int32) (s0 : Int32) (r104 : Int32 → Int32 → HS → Option (Int32 × HS)) (h104 : ∀ (x4 : Int32) (x5 : Int32) (σ : HS), r104 x4 x5 σ = fo → G E F 104 [(0, .ref (E.2.2.1 t)), (1, .int x1), (2, .int x2), (3, .int x3), (4, .int x4), (5, .int x5)] [] σ) (σ : HS) (h : f_X12_soonMay_195 r104 t x1 x2 x3 x5 s0 σ = fo) : G E F 195 [(0, .ref (E.2.2.1 t)), (1, .int x1), (2, .int x2), (3, .int x3), (5, .int x5)] [.int s0] σ := by
    refine g_istore (lv' := [(4, .int s0), (0, .ref (E.2.2.1 t)), (1, .int x1), (2, .int x2), (3, .int x3), (5, .int x5)]) hC dX12_soonMay_195 (by decide) rfl ?_
    refine g_iinc (v := x5 + 1) (lv' := [(5, .int (x5 + 1)), (4, .int s0), (0, .ref (E.2.2.1 t)), (1, .int x1), (2, .int x2), (3, .int x3)]) hC dX12_soonMay_197 5 rfl rfl (by decide) rfl ?_
    refine g_goto (tgt := 104) hC dX12_soonMay_200 (by decide) ?_
    exact g_sub [2, 3, 4, 5, 1, 0] rfl (h104 s0 (x5 + 1) σ h)
set_option maxHeartbeats 4000000 in
set_option maxRecDepth 100000 in
theorem k_X12_soonMay_190 {E : ET} {F : FT} {fo : Option (Int32 × HS)} (hC : Cx E F 8 cX12_soonMay RX12 GT) (hO : Ro F rm_X12_soonMay) (hR : RI E F .int fo) (hf : fo ≠ none) (t : Nat) (ht1 : kd t = 12) (ht2 : AL E t) (x1 : Int32) (x2 : Int32) (x3 : Int32) (x5 : Int32) (r104 : Int32 → Int32 → HS → Option (Int32 × HS)) (h104 : ∀ (x4 : Int32) (x5 : Int32) (σ : HS), r104 x4 x5 σ = fo → G E F 104 [(0, .ref (E.2.2.1 t)), (1, .int x1), (2, .int x2), (3, .int x3), (4, .int x4), (5, .int x5)] [] σ) (σ : HS) (h : f_X12_soonMay_190 r104 t x1 x2 x3 x5 σ = fo) : G E F 190 [(0, .ref (E.2.2.1 t)), (1, .int x1), (2, .int x2), (3, .int x3), (5, .int x5)] [] σ := by
    refine g_iconst (v := 1) hC dX12_soonMay_190 (by decide) ?_
    refine g_goto (tgt := 195) hC dX12_soonMay_191 (by decide) ?_
    exact g_sub [0, 1, 2, 3, 4] rfl (k_X12_soonMay_195 hC hO hR hf t ht1 ht2 x1 x2 x3 x5 1 r104 h104 σ h)
set_option maxHeartbeats 4000000 in
set_option maxRecDepth 100000 in
theorem k_X12_soonMay_172 {E : ET} {F : FT} {fo : Option (Int32 × HS)} (hC : Cx E F 8 cX12_soonMay RX12 GT) (hO : Ro F rm_X12_soonMay) (hR : RI E F .int fo) (hf : fo ≠ none) (t : Nat) (ht1 : kd t = 12) (ht2 : AL E t) (x1 : Int32) (x2 : Int32) (x3 : Int32) (x4 : Int32) (x5 : Int32) (x7 : Int32) (s0 : Int32) (r104 : Int32 → Int32 → HS → Option (Int32 × HS)) (h104 : ∀ (x4 : Int32) (x5 : Int32) (σ : HS), r104 x4 x5 σ = fo → G E F 104 [(0, .ref (E.2.2.1 t)), (1, .int x1), (2, .int x2), (3, .int x3), (4, .int x4), (5, .int x5)] [] σ) (r136 : Int32 → Int32 → HS → Option (Int32 × HS)) (h136 : ∀ (x6 : Int32) (x7 : Int32) (σ : HS), r136 x6 x7 σ = fo → G E F 136 [(0, .ref (E.2.2.1 t)), (1, .int x1), (2, .int x2), (3, .int x3), (4, .int x4), (5, .int x5), (6, .int x6), (7, .int x7)] [] σ) (σ : HS) (h : f_X12_soonMay_172 r104 r136 t x1 x2 x3 x4 x5 x7 s0 σ = fo) : G E F 172 [(0, .ref (E.2.2.1 t)), (1, .int x1), (2, .int x2), (3, .int x3), (4, .int x4), (5, .int x5), (7, .int x7)] [.int s0] σ := by
    refine g_istore (lv' := [(6, .int s0), (0, .ref (E.2.2.1 t)), (1, .int x1), (2, .int x2), (3, .int x3), (4, .int x4), (5, .int x5), (7, .int x7)]) hC dX12_soonMay_172 (by decide) rfl ?_
    refine g_iinc (v := x7 + 1) (lv' := [(7, .int (x7 + 1)), (6, .int s0), (0, .ref (E.2.2.1 t)), (1, .int x1), (2, .int x2), (3, .int x3), (4, .int x4), (5, .int x5)]) hC dX12_soonMay_174 7 rfl rfl (by decide) rfl ?_
    refine g_goto (tgt := 136) hC dX12_soonMay_177 (by decide) ?_
    exact g_sub [2, 3, 4, 5, 6, 7, 1, 0] rfl (h136 s0 (x7 + 1) σ h)
set_option maxHeartbeats 4000000 in
set_option maxRecDepth 100000 in
theorem k_X12_soonMay_171 {E : ET} {F : FT} {fo : Option (Int32 × HS)} (hC : Cx E F 8 cX12_soonMay RX12 GT) (hO : Ro F rm_X12_soonMay) (hR : RI E F .int fo) (hf : fo ≠ none) (t : Nat) (ht1 : kd t = 12) (ht2 : AL E t) (x1 : Int32) (x2 : Int32) (x3 : Int32) (x4 : Int32) (x5 : Int32) (x7 : Int32) (r104 : Int32 → Int32 → HS → Option (Int32 × HS)) (h104 : ∀ (x4 : Int32) (x5 : Int32) (σ : HS), r104 x4 x5 σ = fo → G E F 104 [(0, .ref (E.2.2.1 t)), (1, .int x1), (2, .int x2), (3, .int x3), (4, .int x4), (5, .int x5)] [] σ) (r136 : Int32 → Int32 → HS → Option (Int32 × HS)) (h136 : ∀ (x6 : Int32) (x7 : Int32) (σ : HS), r136 x6 x7 σ = fo → G E F 136 [(0, .ref (E.2.2.1 t)), (1, .int x1), (2, .int x2), (3, .int x3), (4, .int x4), (5, .int x5), (6, .int x6), (7, .int x7)] [] σ) (σ : HS) (h : f_X12_soonMay_171 r104 r136 t x1 x2 x3 x4 x5 x7 σ = fo) : G E F 171 [(0, .ref (E.2.2.1 t)), (1, .int x1), (2, .int x2), (3, .int x3), (4, .int x4), (5, .int x5), (7, .int x7)] [] σ := by
    refine g_iconst (v := 0) hC dX12_soonMay_171 (by decide) ?_
    exact g_sub [0, 1, 2, 3, 4, 5, 6] rfl (k_X12_soonMay_172 hC hO hR hf t ht1 ht2 x1 x2 x3 x4 x5 x7 0 r104 h104 r136 h136 σ h)
set_option maxHeartbeats 4000000 in
set_option maxRecDepth 100000 in
theorem k_X12_soonMay_136 {E : ET} {F : FT} {fo : Option (Int32 × HS)} (hC : Cx E F 8 cX12_soonMay RX12 GT) (hO : Ro F rm_X12_soonMay) (hR : RI E F .int fo) (hf : fo ≠ none) (t : Nat) (ht1 : kd t = 12) (ht2 : AL E t) (x1 : Int32) (x2 : Int32) (x3 : Int32) (x4 : Int32) (x5 : Int32) (r104 : Int32 → Int32 → HS → Option (Int32 × HS)) (h104 : ∀ (x4 : Int32) (x5 : Int32) (σ : HS), r104 x4 x5 σ = fo → G E F 104 [(0, .ref (E.2.2.1 t)), (1, .int x1), (2, .int x2), (3, .int x3), (4, .int x4), (5, .int x5)] [] σ) : ∀ (n : Nat) (x6 : Int32) (x7 : Int32) (σ : HS), f_X12_soonMay_136 t x1 x2 x3 x4 x5 r104 n x6 x7 σ = fo → G E F 136 [(0, .ref (E.2.2.1 t)), (1, .int x1), (2, .int x2), (3, .int x3), (4, .int x4), (5, .int x5), (6, .int x6), (7, .int x7)] [] σ := by
  intro n
  induction n with
  | zero =>
    intro x6 x7 σ h
    exact absurd (h.symm.trans rfl) hf
  | succ n ih =>
    intro x6 x7 σ h
    refine g_iload hC dX12_soonMay_136 7 rfl ?_
    refine g_aload_n hC dX12_soonMay_138 rfl 0 rfl ?_
    refine g_getR (cj := 14) (k := 28) hC cr12 ui_12 ht1 ht2 (by decide) fl_X12_112 rfl rfl dX12_soonMay_139 h hf (fun a1 ea1 ka1 na1 h => ?_)
    refine g_iload_n hC dX12_soonMay_142 rfl 2 rfl ?_
    refine g_iald hC ka1 na1 dX12_soonMay_143 h hf (fun h => ?_)
    refine g_icmp_ge (tgt := 180) hC dX12_soonMay_144 (by decide) h (fun c144 h => ?_) (fun c144 h => ?_)
    · refine g_iload hC dX12_soonMay_180 4 rfl ?_
      refine g_if_ne (tgt := 190) hC dX12_soonMay_182 (by decide) h (fun c182 h => ?_) (fun c182 h => ?_)
      · exact g_sub [0, 1, 2, 3, 5] rfl (k_X12_soonMay_190 hC hO hR hf t ht1 ht2 x1 x2 x3 x5 r104 h104 σ h)
      · refine g_iload hC dX12_soonMay_185 6 rfl ?_
        refine g_if_eq (tgt := 194) hC dX12_soonMay_187 (by decide) h (fun c187 h => ?_) (fun c187 h => ?_)
        · refine g_iconst (v := 0) hC dX12_soonMay_194 (by decide) ?_
          exact g_sub [0, 1, 2, 3, 5] rfl (k_X12_soonMay_195 hC hO hR hf t ht1 ht2 x1 x2 x3 x5 0 r104 h104 σ h)
        · exact g_sub [0, 1, 2, 3, 5] rfl (k_X12_soonMay_190 hC hO hR hf t ht1 ht2 x1 x2 x3 x5 r104 h104 σ h)
    · refine g_iload hC dX12_soonMay_147 6 rfl ?_
      refine g_if_eq (tgt := 171) hC dX12_soonMay_149 (by decide) h (fun c149 h => ?_) (fun c149 h => ?_)
      · exact g_sub [0, 1, 2, 3, 4, 5, 7] rfl (k_X12_soonMay_171 hC hO hR hf t ht1 ht2 x1 x2 x3 x4 x5 x7 r104 h104 (f_X12_soonMay_136 t x1 x2 x3 x4 x5 r104 n) ih σ h)
      · refine g_aload_n hC dX12_soonMay_152 rfl 0 rfl ?_
        refine g_iload_n hC dX12_soonMay_153 rfl 1 rfl ?_
        refine g_iload hC dX12_soonMay_154 5 rfl ?_
        refine g_iload_n hC dX12_soonMay_156 rfl 2 rfl ?_
        refine g_iload hC dX12_soonMay_157 7 rfl ?_
        obtain ⟨q2, hq2, h⟩ := bd_of h hf
        refine g_cVJ (As := [.int x1, .int x5, .int x2, .int x7]) hC hO (c_X12_aboveAt _ hC.2.2.2.2.2.2.1 t ht1 ht2 x1 x5 x2 x7 σ (nn_of hq2)) gc_X12_319 (xk_X12_aboveAt _ (Nat.le_of_ble_eq_true rfl) (Nat.le_of_ble_eq_true rfl)) cr12 ht1 ht2 rfl (Nat.le_of_ble_eq_true rfl) dX12_soonMay_159 hq2 ?_
        refine g_lconst (v := 0) hC dX12_soonMay_162 (by decide) ?_
        refine g_lc_ge (tgt := 171) hC dX12_soonMay_163 dX12_soonMay_164 (by decide) h (fun c163 h => ?_) (fun c163 h => ?_)
        · exact g_sub [0, 1, 2, 3, 4, 5, 7] rfl (k_X12_soonMay_171 hC hO hR hf t ht1 ht2 x1 x2 x3 x4 x5 x7 r104 h104 (f_X12_soonMay_136 t x1 x2 x3 x4 x5 r104 n) ih q2.2 h)
        · refine g_iconst (v := 1) hC dX12_soonMay_167 (by decide) ?_
          refine g_goto (tgt := 172) hC dX12_soonMay_168 (by decide) ?_
          exact g_sub [0, 1, 2, 3, 4, 5, 7] rfl (k_X12_soonMay_172 hC hO hR hf t ht1 ht2 x1 x2 x3 x4 x5 x7 1 r104 h104 (f_X12_soonMay_136 t x1 x2 x3 x4 x5 r104 n) ih q2.2 h)
set_option maxHeartbeats 4000000 in
set_option maxRecDepth 100000 in
theorem k_X12_soonMay_131 {E : ET} {F : FT} {fo : Option (Int32 × HS)} (hC : Cx E F 8 cX12_soonMay RX12 GT) (hO : Ro F rm_X12_soonMay) (hR : RI E F .int fo) (hf : fo ≠ none) (t : Nat) (ht1 : kd t = 12) (ht2 : AL E t) (x1 : Int32) (x2 : Int32) (x3 : Int32) (x4 : Int32) (x5 : Int32) (s0 : Int32) (r104 : Int32 → Int32 → HS → Option (Int32 × HS)) (h104 : ∀ (x4 : Int32) (x5 : Int32) (σ : HS), r104 x4 x5 σ = fo → G E F 104 [(0, .ref (E.2.2.1 t)), (1, .int x1), (2, .int x2), (3, .int x3), (4, .int x4), (5, .int x5)] [] σ) (σ : HS) (h : f_X12_soonMay_131 r104 t x1 x2 x3 x4 x5 s0 σ = fo) : G E F 131 [(0, .ref (E.2.2.1 t)), (1, .int x1), (2, .int x2), (3, .int x3), (4, .int x4), (5, .int x5)] [.int s0] σ := by
    refine g_istore (lv' := [(6, .int s0), (0, .ref (E.2.2.1 t)), (1, .int x1), (2, .int x2), (3, .int x3), (4, .int x4), (5, .int x5)]) hC dX12_soonMay_131 (by decide) rfl ?_
    refine g_iconst (v := 0) hC dX12_soonMay_133 (by decide) ?_
    refine g_istore (lv' := [(7, .int 0), (6, .int s0), (0, .ref (E.2.2.1 t)), (1, .int x1), (2, .int x2), (3, .int x3), (4, .int x4), (5, .int x5)]) hC dX12_soonMay_134 (by decide) rfl ?_
    exact g_sub [2, 3, 4, 5, 6, 7, 1, 0] rfl (k_X12_soonMay_136 hC hO hR hf t ht1 ht2 x1 x2 x3 x4 x5 r104 h104 FU s0 0 σ h)
set_option maxHeartbeats 4000000 in
set_option maxRecDepth 100000 in
theorem k_X12_soonMay_130 {E : ET} {F : FT} {fo : Option (Int32 × HS)} (hC : Cx E F 8 cX12_soonMay RX12 GT) (hO : Ro F rm_X12_soonMay) (hR : RI E F .int fo) (hf : fo ≠ none) (t : Nat) (ht1 : kd t = 12) (ht2 : AL E t) (x1 : Int32) (x2 : Int32) (x3 : Int32) (x4 : Int32) (x5 : Int32) (r104 : Int32 → Int32 → HS → Option (Int32 × HS)) (h104 : ∀ (x4 : Int32) (x5 : Int32) (σ : HS), r104 x4 x5 σ = fo → G E F 104 [(0, .ref (E.2.2.1 t)), (1, .int x1), (2, .int x2), (3, .int x3), (4, .int x4), (5, .int x5)] [] σ) (σ : HS) (h : f_X12_soonMay_130 r104 t x1 x2 x3 x4 x5 σ = fo) : G E F 130 [(0, .ref (E.2.2.1 t)), (1, .int x1), (2, .int x2), (3, .int x3), (4, .int x4), (5, .int x5)] [] σ := by
    refine g_iconst (v := 0) hC dX12_soonMay_130 (by decide) ?_
    exact g_sub [0, 1, 2, 3, 4, 5] rfl (k_X12_soonMay_131 hC hO hR hf t ht1 ht2 x1 x2 x3 x4 x5 0 r104 h104 σ h)
set_option maxHeartbeats 4000000 in
set_option maxRecDepth 100000 in
theorem k_X12_soonMay_104 {E : ET} {F : FT} {fo : Option (Int32 × HS)} (hC : Cx E F 8 cX12_soonMay RX12 GT) (hO : Ro F rm_X12_soonMay) (hR : RI E F .int fo) (hf : fo ≠ none) (t : Nat) (ht1 : kd t = 12) (ht2 : AL E t) (x1 : Int32) (x2 : Int32) (x3 : Int32) : ∀ (n : Nat) (x4 : Int32) (x5 : Int32) (σ : HS), f_X12_soonMay_104 t x1 x2 x3 n x4 x5 σ = fo → G E F 104 [(0, .ref (E.2.2.1 t)), (1, .int x1), (2, .int x2), (3, .int x3), (4, .int x4), (5, .int x5)] [] σ := by
  intro n
  induction n with
  | zero =>
    intro x4 x5 σ h
    exact absurd (h.symm.trans rfl) hf
  | succ n ih =>
    intro x4 x5 σ h
    refine g_iload hC dX12_soonMay_104 5 rfl ?_
    refine g_bipush (v := 8) hC dX12_soonMay_106 (by decide) ?_
    refine g_icmp_ge (tgt := 203) hC dX12_soonMay_108 (by decide) h (fun c108 h => ?_) (fun c108 h => ?_)
    · refine g_iload_n hC dX12_soonMay_203 rfl 3 rfl ?_
      refine g_if_eq (tgt := 211) hC dX12_soonMay_204 (by decide) h (fun c204 h => ?_) (fun c204 h => ?_)
      · refine g_iload hC dX12_soonMay_211 4 rfl ?_
        refine g_if_eq (tgt := 220) hC dX12_soonMay_213 (by decide) h (fun c213 h => ?_) (fun c213 h => ?_)
        · refine g_iconst (v := 0) hC dX12_soonMay_220 (by decide) ?_
          exact g_sub [] rfl (k_X12_soonMay_221 hC hO hR hf 0 σ h)
        · refine g_iconst (v := (-1)) hC dX12_soonMay_216 (by decide) ?_
          refine g_goto (tgt := 221) hC dX12_soonMay_217 (by decide) ?_
          exact g_sub [] rfl (k_X12_soonMay_221 hC hO hR hf (-1) σ h)
      · refine g_iconst (v := 1) hC dX12_soonMay_207 (by decide) ?_
        refine g_goto (tgt := 221) hC dX12_soonMay_208 (by decide) ?_
        exact g_sub [] rfl (k_X12_soonMay_221 hC hO hR hf 1 σ h)
    · refine g_iload hC dX12_soonMay_111 5 rfl ?_
      refine g_iload_n hC dX12_soonMay_113 rfl 1 rfl ?_
      refine g_icmp_eq (tgt := 130) hC dX12_soonMay_114 (by decide) h (fun c114 h => ?_) (fun c114 h => ?_)
      · exact g_sub [0, 1, 2, 3, 4, 5] rfl (k_X12_soonMay_130 hC hO hR hf t ht1 ht2 x1 x2 x3 x4 x5 (f_X12_soonMay_104 t x1 x2 x3 n) ih σ h)
      · refine g_aload_n hC dX12_soonMay_117 rfl 0 rfl ?_
        refine g_iload hC dX12_soonMay_118 5 rfl ?_
        obtain ⟨q1, hq1, h⟩ := bd_of h hf
        refine g_cVI (As := [.int x5]) hC hO (c_X12_isIn _ hC.2.2.2.2.2.2.1 t ht1 ht2 x5 σ (nn_of hq1)) gc_X12_223 (xk_X12_isIn _ (Nat.le_of_ble_eq_true rfl) (Nat.le_of_ble_eq_true rfl)) cr12 ht1 ht2 rfl (Nat.le_of_ble_eq_true rfl) dX12_soonMay_120 hq1 ?_
        refine g_if_eq (tgt := 130) hC dX12_soonMay_123 (by decide) h (fun c123 h => ?_) (fun c123 h => ?_)
        · exact g_sub [0, 1, 2, 3, 4, 5] rfl (k_X12_soonMay_130 hC hO hR hf t ht1 ht2 x1 x2 x3 x4 x5 (f_X12_soonMay_104 t x1 x2 x3 n) ih q1.2 h)
        · refine g_iconst (v := 1) hC dX12_soonMay_126 (by decide) ?_
          refine g_goto (tgt := 131) hC dX12_soonMay_127 (by decide) ?_
          exact g_sub [0, 1, 2, 3, 4, 5] rfl (k_X12_soonMay_131 hC hO hR hf t ht1 ht2 x1 x2 x3 x4 x5 1 (f_X12_soonMay_104 t x1 x2 x3 n) ih q1.2 h)
set_option maxHeartbeats 4000000 in
set_option maxRecDepth 100000 in
theorem k_X12_soonMay_91 {E : ET} {F : FT} {fo : Option (Int32 × HS)} (hC : Cx E F 8 cX12_soonMay RX12 GT) (hO : Ro F rm_X12_soonMay) (hR : RI E F .int fo) (hf : fo ≠ none) (t : Nat) (ht1 : kd t = 12) (ht2 : AL E t) (x1 : Int32) (x2 : Int32) (x4 : Int32) (s0 : Int32) (r5 : Int32 → Int32 → HS → Option (Int32 × HS)) (h5 : ∀ (x3 : Int32) (x4 : Int32) (σ : HS), r5 x3 x4 σ = fo → G E F 5 [(0, .ref (E.2.2.1 t)), (1, .int x1), (2, .int x2), (3, .int x3), (4, .int x4)] [] σ) (σ : HS) (h : f_X12_soonMay_91 r5 t x1 x2 x4 s0 σ = fo) : G E F 91 [(0, .ref (E.2.2.1 t)), (1, .int x1), (2, .int x2), (4, .int x4)] [.int s0] σ := by
    refine g_istore_n (lv' := [(3, .int s0), (0, .ref (E.2.2.1 t)), (1, .int x1), (2, .int x2), (4, .int x4)]) hC dX12_soonMay_91 rfl (by decide) rfl ?_
    refine g_iinc (v := x4 + 1) (lv' := [(4, .int (x4 + 1)), (3, .int s0), (0, .ref (E.2.2.1 t)), (1, .int x1), (2, .int x2)]) hC dX12_soonMay_92 4 rfl rfl (by decide) rfl ?_
    refine g_goto (tgt := 5) hC dX12_soonMay_95 (by decide) ?_
    exact g_sub [2, 3, 4, 1, 0] rfl (h5 s0 (x4 + 1) σ h)
set_option maxHeartbeats 4000000 in
set_option maxRecDepth 100000 in
theorem k_X12_soonMay_86 {E : ET} {F : FT} {fo : Option (Int32 × HS)} (hC : Cx E F 8 cX12_soonMay RX12 GT) (hO : Ro F rm_X12_soonMay) (hR : RI E F .int fo) (hf : fo ≠ none) (t : Nat) (ht1 : kd t = 12) (ht2 : AL E t) (x1 : Int32) (x2 : Int32) (x4 : Int32) (r5 : Int32 → Int32 → HS → Option (Int32 × HS)) (h5 : ∀ (x3 : Int32) (x4 : Int32) (σ : HS), r5 x3 x4 σ = fo → G E F 5 [(0, .ref (E.2.2.1 t)), (1, .int x1), (2, .int x2), (3, .int x3), (4, .int x4)] [] σ) (σ : HS) (h : f_X12_soonMay_86 r5 t x1 x2 x4 σ = fo) : G E F 86 [(0, .ref (E.2.2.1 t)), (1, .int x1), (2, .int x2), (4, .int x4)] [] σ := by
    refine g_iconst (v := 1) hC dX12_soonMay_86 (by decide) ?_
    refine g_goto (tgt := 91) hC dX12_soonMay_87 (by decide) ?_
    exact g_sub [0, 1, 2, 3] rfl (k_X12_soonMay_91 hC hO hR hf t ht1 ht2 x1 x2 x4 1 r5 h5 σ h)
set_option maxHeartbeats 4000000 in
set_option maxRecDepth 100000 in
theorem k_X12_soonMay_69 {E : ET} {F : FT} {fo : Option (Int32 × HS)} (hC : Cx E F 8 cX12_soonMay RX12 GT) (hO : Ro F rm_X12_soonMay) (hR : RI E F .int fo) (hf : fo ≠ none) (t : Nat) (ht1 : kd t = 12) (ht2 : AL E t) (x1 : Int32) (x2 : Int32) (x3 : Int32) (x4 : Int32) (x6 : Int32) (s0 : Int32) (r5 : Int32 → Int32 → HS → Option (Int32 × HS)) (h5 : ∀ (x3 : Int32) (x4 : Int32) (σ : HS), r5 x3 x4 σ = fo → G E F 5 [(0, .ref (E.2.2.1 t)), (1, .int x1), (2, .int x2), (3, .int x3), (4, .int x4)] [] σ) (r22 : Int32 → Int32 → HS → Option (Int32 × HS)) (h22 : ∀ (x5 : Int32) (x6 : Int32) (σ : HS), r22 x5 x6 σ = fo → G E F 22 [(0, .ref (E.2.2.1 t)), (1, .int x1), (2, .int x2), (3, .int x3), (4, .int x4), (5, .int x5), (6, .int x6)] [] σ) (σ : HS) (h : f_X12_soonMay_69 r5 r22 t x1 x2 x3 x4 x6 s0 σ = fo) : G E F 69 [(0, .ref (E.2.2.1 t)), (1, .int x1), (2, .int x2), (3, .int x3), (4, .int x4), (6, .int x6)] [.int s0] σ := by
    refine g_istore (lv' := [(5, .int s0), (0, .ref (E.2.2.1 t)), (1, .int x1), (2, .int x2), (3, .int x3), (4, .int x4), (6, .int x6)]) hC dX12_soonMay_69 (by decide) rfl ?_
    refine g_iinc (v := x6 + 1) (lv' := [(6, .int (x6 + 1)), (5, .int s0), (0, .ref (E.2.2.1 t)), (1, .int x1), (2, .int x2), (3, .int x3), (4, .int x4)]) hC dX12_soonMay_71 6 rfl rfl (by decide) rfl ?_
    refine g_goto (tgt := 22) hC dX12_soonMay_74 (by decide) ?_
    exact g_sub [2, 3, 4, 5, 6, 1, 0] rfl (h22 s0 (x6 + 1) σ h)
set_option maxHeartbeats 4000000 in
set_option maxRecDepth 100000 in
theorem k_X12_soonMay_68 {E : ET} {F : FT} {fo : Option (Int32 × HS)} (hC : Cx E F 8 cX12_soonMay RX12 GT) (hO : Ro F rm_X12_soonMay) (hR : RI E F .int fo) (hf : fo ≠ none) (t : Nat) (ht1 : kd t = 12) (ht2 : AL E t) (x1 : Int32) (x2 : Int32) (x3 : Int32) (x4 : Int32) (x6 : Int32) (r5 : Int32 → Int32 → HS → Option (Int32 × HS)) (h5 : ∀ (x3 : Int32) (x4 : Int32) (σ : HS), r5 x3 x4 σ = fo → G E F 5 [(0, .ref (E.2.2.1 t)), (1, .int x1), (2, .int x2), (3, .int x3), (4, .int x4)] [] σ) (r22 : Int32 → Int32 → HS → Option (Int32 × HS)) (h22 : ∀ (x5 : Int32) (x6 : Int32) (σ : HS), r22 x5 x6 σ = fo → G E F 22 [(0, .ref (E.2.2.1 t)), (1, .int x1), (2, .int x2), (3, .int x3), (4, .int x4), (5, .int x5), (6, .int x6)] [] σ) (σ : HS) (h : f_X12_soonMay_68 r5 r22 t x1 x2 x3 x4 x6 σ = fo) : G E F 68 [(0, .ref (E.2.2.1 t)), (1, .int x1), (2, .int x2), (3, .int x3), (4, .int x4), (6, .int x6)] [] σ := by
    refine g_iconst (v := 0) hC dX12_soonMay_68 (by decide) ?_
    exact g_sub [0, 1, 2, 3, 4, 5] rfl (k_X12_soonMay_69 hC hO hR hf t ht1 ht2 x1 x2 x3 x4 x6 0 r5 h5 r22 h22 σ h)
set_option maxHeartbeats 4000000 in
set_option maxRecDepth 100000 in
theorem k_X12_soonMay_64 {E : ET} {F : FT} {fo : Option (Int32 × HS)} (hC : Cx E F 8 cX12_soonMay RX12 GT) (hO : Ro F rm_X12_soonMay) (hR : RI E F .int fo) (hf : fo ≠ none) (t : Nat) (ht1 : kd t = 12) (ht2 : AL E t) (x1 : Int32) (x2 : Int32) (x3 : Int32) (x4 : Int32) (x6 : Int32) (r5 : Int32 → Int32 → HS → Option (Int32 × HS)) (h5 : ∀ (x3 : Int32) (x4 : Int32) (σ : HS), r5 x3 x4 σ = fo → G E F 5 [(0, .ref (E.2.2.1 t)), (1, .int x1), (2, .int x2), (3, .int x3), (4, .int x4)] [] σ) (r22 : Int32 → Int32 → HS → Option (Int32 × HS)) (h22 : ∀ (x5 : Int32) (x6 : Int32) (σ : HS), r22 x5 x6 σ = fo → G E F 22 [(0, .ref (E.2.2.1 t)), (1, .int x1), (2, .int x2), (3, .int x3), (4, .int x4), (5, .int x5), (6, .int x6)] [] σ) (σ : HS) (h : f_X12_soonMay_64 r5 r22 t x1 x2 x3 x4 x6 σ = fo) : G E F 64 [(0, .ref (E.2.2.1 t)), (1, .int x1), (2, .int x2), (3, .int x3), (4, .int x4), (6, .int x6)] [] σ := by
    refine g_iconst (v := 1) hC dX12_soonMay_64 (by decide) ?_
    refine g_goto (tgt := 69) hC dX12_soonMay_65 (by decide) ?_
    exact g_sub [0, 1, 2, 3, 4, 5] rfl (k_X12_soonMay_69 hC hO hR hf t ht1 ht2 x1 x2 x3 x4 x6 1 r5 h5 r22 h22 σ h)
set_option maxHeartbeats 4000000 in
set_option maxRecDepth 100000 in
theorem k_X12_soonMay_22 {E : ET} {F : FT} {fo : Option (Int32 × HS)} (hC : Cx E F 8 cX12_soonMay RX12 GT) (hO : Ro F rm_X12_soonMay) (hR : RI E F .int fo) (hf : fo ≠ none) (t : Nat) (ht1 : kd t = 12) (ht2 : AL E t) (x1 : Int32) (x2 : Int32) (x3 : Int32) (x4 : Int32) (r5 : Int32 → Int32 → HS → Option (Int32 × HS)) (h5 : ∀ (x3 : Int32) (x4 : Int32) (σ : HS), r5 x3 x4 σ = fo → G E F 5 [(0, .ref (E.2.2.1 t)), (1, .int x1), (2, .int x2), (3, .int x3), (4, .int x4)] [] σ) : ∀ (n : Nat) (x5 : Int32) (x6 : Int32) (σ : HS), f_X12_soonMay_22 t x1 x2 x3 x4 r5 n x5 x6 σ = fo → G E F 22 [(0, .ref (E.2.2.1 t)), (1, .int x1), (2, .int x2), (3, .int x3), (4, .int x4), (5, .int x5), (6, .int x6)] [] σ := by
  intro n
  induction n with
  | zero =>
    intro x5 x6 σ h
    exact absurd (h.symm.trans rfl) hf
  | succ n ih =>
    intro x5 x6 σ h
    refine g_iload hC dX12_soonMay_22 6 rfl ?_
    refine g_bipush (v := 8) hC dX12_soonMay_24 (by decide) ?_
    refine g_icmp_ge (tgt := 77) hC dX12_soonMay_26 (by decide) h (fun c26 h => ?_) (fun c26 h => ?_)
    · refine g_iload_n hC dX12_soonMay_77 rfl 3 rfl ?_
      refine g_if_ne (tgt := 86) hC dX12_soonMay_78 (by decide) h (fun c78 h => ?_) (fun c78 h => ?_)
      · exact g_sub [0, 1, 2, 4] rfl (k_X12_soonMay_86 hC hO hR hf t ht1 ht2 x1 x2 x4 r5 h5 σ h)
      · refine g_iload hC dX12_soonMay_81 5 rfl ?_
        refine g_if_eq (tgt := 90) hC dX12_soonMay_83 (by decide) h (fun c83 h => ?_) (fun c83 h => ?_)
        · refine g_iconst (v := 0) hC dX12_soonMay_90 (by decide) ?_
          exact g_sub [0, 1, 2, 4] rfl (k_X12_soonMay_91 hC hO hR hf t ht1 ht2 x1 x2 x4 0 r5 h5 σ h)
        · exact g_sub [0, 1, 2, 4] rfl (k_X12_soonMay_86 hC hO hR hf t ht1 ht2 x1 x2 x4 r5 h5 σ h)
    · refine g_iload hC dX12_soonMay_29 5 rfl ?_
      refine g_if_eq (tgt := 68) hC dX12_soonMay_31 (by decide) h (fun c31 h => ?_) (fun c31 h => ?_)
      · exact g_sub [0, 1, 2, 3, 4, 6] rfl (k_X12_soonMay_68 hC hO hR hf t ht1 ht2 x1 x2 x3 x4 x6 r5 h5 (f_X12_soonMay_22 t x1 x2 x3 x4 r5 n) ih σ h)
      · refine g_iload hC dX12_soonMay_34 6 rfl ?_
        refine g_iload_n hC dX12_soonMay_36 rfl 1 rfl ?_
        refine g_icmp_eq (tgt := 64) hC dX12_soonMay_37 (by decide) h (fun c37 h => ?_) (fun c37 h => ?_)
        · exact g_sub [0, 1, 2, 3, 4, 6] rfl (k_X12_soonMay_64 hC hO hR hf t ht1 ht2 x1 x2 x3 x4 x6 r5 h5 (f_X12_soonMay_22 t x1 x2 x3 x4 r5 n) ih σ h)
        · refine g_aload_n hC dX12_soonMay_40 rfl 0 rfl ?_
          refine g_iload hC dX12_soonMay_41 6 rfl ?_
          obtain ⟨q1, hq1, h⟩ := bd_of h hf
          refine g_cVI (As := [.int x6]) hC hO (c_X12_isIn _ hC.2.2.2.2.2.2.1 t ht1 ht2 x6 σ (nn_of hq1)) gc_X12_223 (xk_X12_isIn _ (Nat.le_of_ble_eq_true rfl) (Nat.le_of_ble_eq_true rfl)) cr12 ht1 ht2 rfl (Nat.le_of_ble_eq_true rfl) dX12_soonMay_43 hq1 ?_
          refine g_if_eq (tgt := 64) hC dX12_soonMay_46 (by decide) h (fun c46 h => ?_) (fun c46 h => ?_)
          · exact g_sub [0, 1, 2, 3, 4, 6] rfl (k_X12_soonMay_64 hC hO hR hf t ht1 ht2 x1 x2 x3 x4 x6 r5 h5 (f_X12_soonMay_22 t x1 x2 x3 x4 r5 n) ih q1.2 h)
          · refine g_aload_n hC dX12_soonMay_49 rfl 0 rfl ?_
            refine g_iload_n hC dX12_soonMay_50 rfl 1 rfl ?_
            refine g_iload hC dX12_soonMay_51 6 rfl ?_
            refine g_iload_n hC dX12_soonMay_53 rfl 2 rfl ?_
            refine g_iload hC dX12_soonMay_54 4 rfl ?_
            obtain ⟨q2, hq2, h⟩ := bd_of h hf
            refine g_cVJ (As := [.int x1, .int x6, .int x2, .int x4]) hC hO (c_X12_aboveAt _ hC.2.2.2.2.2.2.1 t ht1 ht2 x1 x6 x2 x4 q1.2 (nn_of hq2)) gc_X12_319 (xk_X12_aboveAt _ (Nat.le_of_ble_eq_true rfl) (Nat.le_of_ble_eq_true rfl)) cr12 ht1 ht2 rfl (Nat.le_of_ble_eq_true rfl) dX12_soonMay_56 hq2 ?_
            refine g_lconst (v := 0) hC dX12_soonMay_59 (by decide) ?_
            refine g_lc_lt (tgt := 68) hC dX12_soonMay_60 dX12_soonMay_61 (by decide) h (fun c60 h => ?_) (fun c60 h => ?_)
            · exact g_sub [0, 1, 2, 3, 4, 6] rfl (k_X12_soonMay_68 hC hO hR hf t ht1 ht2 x1 x2 x3 x4 x6 r5 h5 (f_X12_soonMay_22 t x1 x2 x3 x4 r5 n) ih q2.2 h)
            · exact g_sub [0, 1, 2, 3, 4, 6] rfl (k_X12_soonMay_64 hC hO hR hf t ht1 ht2 x1 x2 x3 x4 x6 r5 h5 (f_X12_soonMay_22 t x1 x2 x3 x4 r5 n) ih q2.2 h)
set_option maxHeartbeats 4000000 in
set_option maxRecDepth 100000 in
theorem k_X12_soonMay_5 {E : ET} {F : FT} {fo : Option (Int32 × HS)} (hC : Cx E F 8 cX12_soonMay RX12 GT) (hO : Ro F rm_X12_soonMay) (hR : RI E F .int fo) (hf : fo ≠ none) (t : Nat) (ht1 : kd t = 12) (ht2 : AL E t) (x1 : Int32) (x2 : Int32) : ∀ (n : Nat) (x3 : Int32) (x4 : Int32) (σ : HS), f_X12_soonMay_5 t x1 x2 n x3 x4 σ = fo → G E F 5 [(0, .ref (E.2.2.1 t)), (1, .int x1), (2, .int x2), (3, .int x3), (4, .int x4)] [] σ := by
  intro n
  induction n with
  | zero =>
    intro x3 x4 σ h
    exact absurd (h.symm.trans rfl) hf
  | succ n ih =>
    intro x3 x4 σ h
    refine g_iload hC dX12_soonMay_5 4 rfl ?_
    refine g_aload_n hC dX12_soonMay_7 rfl 0 rfl ?_
    refine g_getR (cj := 14) (k := 28) hC cr12 ui_12 ht1 ht2 (by decide) fl_X12_112 rfl rfl dX12_soonMay_8 h hf (fun a1 ea1 ka1 na1 h => ?_)
    refine g_iload_n hC dX12_soonMay_11 rfl 2 rfl ?_
    refine g_iald hC ka1 na1 dX12_soonMay_12 h hf (fun h => ?_)
    refine g_icmp_ge (tgt := 98) hC dX12_soonMay_13 (by decide) h (fun c13 h => ?_) (fun c13 h => ?_)
    · refine g_iconst (v := 0) hC dX12_soonMay_98 (by decide) ?_
      refine g_istore (lv' := [(4, .int 0), (0, .ref (E.2.2.1 t)), (1, .int x1), (2, .int x2), (3, .int x3)]) hC dX12_soonMay_99 (by decide) rfl ?_
      refine g_iconst (v := 0) hC dX12_soonMay_101 (by decide) ?_
      refine g_istore (lv' := [(5, .int 0), (4, .int 0), (0, .ref (E.2.2.1 t)), (1, .int x1), (2, .int x2), (3, .int x3)]) hC dX12_soonMay_102 (by decide) rfl ?_
      exact g_sub [2, 3, 4, 5, 1, 0] rfl (k_X12_soonMay_104 hC hO hR hf t ht1 ht2 x1 x2 x3 FU 0 0 σ h)
    · refine g_iconst (v := 1) hC dX12_soonMay_16 (by decide) ?_
      refine g_istore (lv' := [(5, .int 1), (0, .ref (E.2.2.1 t)), (1, .int x1), (2, .int x2), (3, .int x3), (4, .int x4)]) hC dX12_soonMay_17 (by decide) rfl ?_
      refine g_iconst (v := 0) hC dX12_soonMay_19 (by decide) ?_
      refine g_istore (lv' := [(6, .int 0), (5, .int 1), (0, .ref (E.2.2.1 t)), (1, .int x1), (2, .int x2), (3, .int x3), (4, .int x4)]) hC dX12_soonMay_20 (by decide) rfl ?_
      exact g_sub [2, 3, 4, 5, 6, 1, 0] rfl (k_X12_soonMay_22 hC hO hR hf t ht1 ht2 x1 x2 x3 x4 (f_X12_soonMay_5 t x1 x2 n) ih FU 1 0 σ h)
set_option maxHeartbeats 4000000 in
set_option maxRecDepth 100000 in
theorem k_X12_soonMay_0 {E : ET} {F : FT} {fo : Option (Int32 × HS)} (hC : Cx E F 8 cX12_soonMay RX12 GT) (hO : Ro F rm_X12_soonMay) (hR : RI E F .int fo) (hf : fo ≠ none) (t : Nat) (ht1 : kd t = 12) (ht2 : AL E t) (x1 : Int32) (x2 : Int32) (σ : HS) (h : f_X12_soonMay t x1 x2 σ = fo) : G E F 0 [(0, .ref (E.2.2.1 t)), (1, .int x1), (2, .int x2)] [] σ := by
    refine g_iconst (v := 0) hC dX12_soonMay_0 (by decide) ?_
    refine g_istore_n (lv' := [(3, .int 0), (0, .ref (E.2.2.1 t)), (1, .int x1), (2, .int x2)]) hC dX12_soonMay_1 rfl (by decide) rfl ?_
    refine g_iconst (v := 0) hC dX12_soonMay_2 (by decide) ?_
    refine g_istore (lv' := [(4, .int 0), (3, .int 0), (0, .ref (E.2.2.1 t)), (1, .int x1), (2, .int x2)]) hC dX12_soonMay_3 (by decide) rfl ?_
    exact g_sub [2, 3, 4, 1, 0] rfl (k_X12_soonMay_5 hC hO hR hf t ht1 ht2 x1 x2 FU 0 0 σ h)
theorem xk_X12_soonMay (R : Room) (h1 : 5 + 1 ≤ R.frames) (h2 : 216 ≤ R.locals) : xw R yX12_soonMay w_X12_soonMay GT cX12_soonMay 8 (some .int) rm_X12_soonMay 2 := ⟨rfl, rfl, rfl, h1, h2, ⟨by decide, by decide⟩, by decide +kernel⟩
theorem c_X12_soonMay (E : ET) (hE : EO E) (t : Nat) (ht1 : kd t = 12) (ht2 : AL E t) (x1 : Int32) (x2 : Int32) (σ : HS) (hn : f_X12_soonMay t x1 x2 σ ≠ none) : CoI E yX12_soonMay w_X12_soonMay rm_X12_soonMay [.ref (E.2.2.1 t), .int x1, .int x2] σ (f_X12_soonMay t x1 x2 σ) := CoI.of (lv := [(0, .ref (E.2.2.1 t)), (1, .int x1), (2, .int x2)]) hE (plainFor_of_name (by decide)) rfl (Nat.le_of_ble_eq_true rfl) rfl (fun F hC hO hR => k_X12_soonMay_0 hC hO hR hn t ht1 ht2 x1 x2 σ rfl)
def rm_X12_mayBe : Room := { frames := 6, cells := 0, slots := 0, locals := 216 }
theorem wc_X12_soonMay : Cond.code yX12_soonMay cX12_soonMay 8 (some .int) ∈ GT := gtr_42 _ (List.mem_of_getElem? (i := 5) rfl)
theorem gc_X12_326 : GoodIn GT (wsV RX12 326 RX12 yX12_soonMay w_X12_soonMay) := gi_V (gtr_42 _ (List.mem_of_getElem? (i := 2) rfl)) (gtr_42 _ (List.mem_of_getElem? (i := 3) rfl)) (gtr_42 _ (List.mem_of_getElem? (i := 4) rfl)) (gtr_1 _ (List.mem_of_getElem? (i := 5) rfl)) wc_X12_soonMay
theorem wc_X12_backTo : Cond.code yX12_backTo cX12_backTo 2 none ∈ GT := gtr_42 _ (List.mem_of_getElem? (i := 17) rfl)
theorem gc_X12_335 : GoodIn GT (wsV RX12 335 RX12 yX12_backTo w_X12_backTo) := gi_V (gtr_42 _ (List.mem_of_getElem? (i := 14) rfl)) (gtr_42 _ (List.mem_of_getElem? (i := 15) rfl)) (gtr_42 _ (List.mem_of_getElem? (i := 16) rfl)) (gtr_1 _ (List.mem_of_getElem? (i := 5) rfl)) wc_X12_backTo
theorem wc_X12_addsAbove : Cond.code yX12_addsAbove cX12_addsAbove 3 none ∈ GT := gtr_42 _ (List.mem_of_getElem? (i := 9) rfl)
theorem gc_X12_329 : GoodIn GT (wsV RX12 329 RX12 yX12_addsAbove w_X12_addsAbove) := gi_V (gtr_42 _ (List.mem_of_getElem? (i := 6) rfl)) (gtr_42 _ (List.mem_of_getElem? (i := 7) rfl)) (gtr_42 _ (List.mem_of_getElem? (i := 8) rfl)) (gtr_1 _ (List.mem_of_getElem? (i := 5) rfl)) wc_X12_addsAbove
theorem wc_X12_findMore : Cond.code yX12_findMore cX12_findMore 6 none ∈ GT := gtr_42 _ (List.mem_of_getElem? (i := 13) rfl)
theorem gc_X12_332 : GoodIn GT (wsV RX12 332 RX12 yX12_findMore w_X12_findMore) := gi_V (gtr_42 _ (List.mem_of_getElem? (i := 10) rfl)) (gtr_42 _ (List.mem_of_getElem? (i := 11) rfl)) (gtr_42 _ (List.mem_of_getElem? (i := 12) rfl)) (gtr_1 _ (List.mem_of_getElem? (i := 5) rfl)) wc_X12_findMore
set_option maxHeartbeats 4000000 in
set_option maxRecDepth 100000 in
theorem k_X12_mayBe_96 {E : ET} {F : FT} {fo : Option (Int32 × HS)} (hC : Cx E F 6 cX12_mayBe RX12 GT) (hO : Ro F rm_X12_mayBe) (hR : RI E F .boolean fo) (hf : fo ≠ none) (t : Nat) (ht1 : kd t = 12) (ht2 : AL E t) (x2 : Int32) (s0 : Int32) (σ : HS) (h : f_X12_mayBe_96 t x2 s0 σ = fo) : G E F 96 [(0, .ref (E.2.2.1 t)), (2, .int x2)] [.int s0] σ := by
    refine g_istore (lv' := [(5, .int s0), (0, .ref (E.2.2.1 t)), (2, .int x2)]) hC dX12_mayBe_96 (by decide) rfl ?_
    refine g_aload_n hC dX12_mayBe_98 rfl 1 rfl ?_
    refine g_iload_n hC dX12_mayBe_99 rfl 2 rfl ?_
    obtain ⟨q1, hq1, h⟩ := bd_of h hf
    refine g_cVV (As := [.int x2]) hC hO (c_X12_backTo _ hC.2.2.2.2.2.2.1 t ht1 ht2 x2 σ (nn_of hq1)) gc_X12_335 (xk_X12_backTo _ (Nat.le_of_ble_eq_true rfl) (Nat.le_of_ble_eq_true rfl)) cr12 ht1 ht2 rfl (Nat.le_of_ble_eq_true rfl) dX12_mayBe_100 hq1 ?_
    refine g_iload hC dX12_mayBe_103 0 rfl ?_
    obtain ⟨hz, h⟩ := zr_of h hf
    exact g_iret hC hR dX12_mayBe_105 hz h
set_option maxHeartbeats 4000000 in
set_option maxRecDepth 100000 in
theorem k_X12_mayBe_81 {E : ET} {F : FT} {fo : Option (Int32 × HS)} (hC : Cx E F 6 cX12_mayBe RX12 GT) (hO : Ro F rm_X12_mayBe) (hR : RI E F .boolean fo) (hf : fo ≠ none) (t : Nat) (ht1 : kd t = 12) (ht2 : AL E t) (x2 : Int32) (x4 : Int32) (σ : HS) (h : f_X12_mayBe_81 t x2 x4 σ = fo) : G E F 81 [(0, .ref (E.2.2.1 t)), (2, .int x2), (4, .int x4)] [] σ := by
    refine g_aload_n hC dX12_mayBe_81 rfl 0 rfl ?_
    refine g_getR (cj := 14) (k := 28) hC cr12 ui_12 ht1 ht2 (by decide) fl_X12_112 rfl rfl dX12_mayBe_82 h hf (fun a1 ea1 ka1 na1 h => ?_)
    refine g_iload hC dX12_mayBe_85 2 rfl ?_
    refine g_iald hC ka1 na1 dX12_mayBe_87 h hf (fun h => ?_)
    refine g_if_le (tgt := 95) hC dX12_mayBe_88 (by decide) h (fun c88 h => ?_) (fun c88 h => ?_)
    · refine g_iconst (v := 0) hC dX12_mayBe_95 (by decide) ?_
      exact g_sub [0, 1] rfl (k_X12_mayBe_96 hC hO hR hf t ht1 ht2 x2 0 σ h)
    · refine g_iconst (v := 1) hC dX12_mayBe_91 (by decide) ?_
      refine g_goto (tgt := 96) hC dX12_mayBe_92 (by decide) ?_
      exact g_sub [0, 1] rfl (k_X12_mayBe_96 hC hO hR hf t ht1 ht2 x2 1 σ h)
set_option maxHeartbeats 4000000 in
set_option maxRecDepth 100000 in
theorem k_X12_mayBe_75 {E : ET} {F : FT} {fo : Option (Int32 × HS)} (hC : Cx E F 6 cX12_mayBe RX12 GT) (hO : Ro F rm_X12_mayBe) (hR : RI E F .boolean fo) (hf : fo ≠ none) (t : Nat) (ht1 : kd t = 12) (ht2 : AL E t) (x1 : Int32) (x2 : Int32) (x4 : Int32) (x5 : Int32) (r27 : Int32 → Int32 → HS → Option (Int32 × HS)) (h27 : ∀ (x4 : Int32) (x5 : Int32) (σ : HS), r27 x4 x5 σ = fo → G E F 27 [(0, .ref (E.2.2.1 t)), (1, .int x1), (2, .int x2), (4, .int x4), (5, .int x5)] [] σ) (σ : HS) (h : f_X12_mayBe_75 r27 t x1 x2 x4 x5 σ = fo) : G E F 75 [(0, .ref (E.2.2.1 t)), (1, .int x1), (2, .int x2), (4, .int x4), (5, .int x5)] [] σ := by
    refine g_iinc (v := x5 + 1) (lv' := [(5, .int (x5 + 1)), (0, .ref (E.2.2.1 t)), (1, .int x1), (2, .int x2), (4, .int x4)]) hC dX12_mayBe_75 4 rfl rfl (by decide) rfl ?_
    refine g_goto (tgt := 27) hC dX12_mayBe_78 (by decide) ?_
    exact g_sub [1, 2, 3, 4, 0] rfl (h27 x4 (x5 + 1) σ h)
set_option maxHeartbeats 4000000 in
set_option maxRecDepth 100000 in
theorem k_X12_mayBe_27 {E : ET} {F : FT} {fo : Option (Int32 × HS)} (hC : Cx E F 6 cX12_mayBe RX12 GT) (hO : Ro F rm_X12_mayBe) (hR : RI E F .boolean fo) (hf : fo ≠ none) (t : Nat) (ht1 : kd t = 12) (ht2 : AL E t) (x1 : Int32) (x2 : Int32) : ∀ (n : Nat) (x4 : Int32) (x5 : Int32) (σ : HS), f_X12_mayBe_27 t x1 x2 n x4 x5 σ = fo → G E F 27 [(0, .ref (E.2.2.1 t)), (1, .int x1), (2, .int x2), (4, .int x4), (5, .int x5)] [] σ := by
  intro n
  induction n with
  | zero =>
    intro x4 x5 σ h
    exact absurd (h.symm.trans rfl) hf
  | succ n ih =>
    intro x4 x5 σ h
    refine g_iload hC dX12_mayBe_27 4 rfl ?_
    refine g_bipush (v := 8) hC dX12_mayBe_29 (by decide) ?_
    refine g_icmp_ge (tgt := 81) hC dX12_mayBe_31 (by decide) h (fun c31 h => ?_) (fun c31 h => ?_)
    · exact g_sub [0, 2, 3] rfl (k_X12_mayBe_81 hC hO hR hf t ht1 ht2 x2 x4 σ h)
    · refine g_aload_n hC dX12_mayBe_34 rfl 0 rfl ?_
      refine g_getR (cj := 14) (k := 28) hC cr12 ui_12 ht1 ht2 (by decide) fl_X12_112 rfl rfl dX12_mayBe_35 h hf (fun a1 ea1 ka1 na1 h => ?_)
      refine g_iload hC dX12_mayBe_38 3 rfl ?_
      refine g_iald hC ka1 na1 dX12_mayBe_40 h hf (fun h => ?_)
      refine g_if_le (tgt := 81) hC dX12_mayBe_41 (by decide) h (fun c41 h => ?_) (fun c41 h => ?_)
      · exact g_sub [0, 2, 3] rfl (k_X12_mayBe_81 hC hO hR hf t ht1 ht2 x2 x4 σ h)
      · refine g_iload hC dX12_mayBe_44 4 rfl ?_
        refine g_iload_n hC dX12_mayBe_46 rfl 1 rfl ?_
        refine g_icmp_eq (tgt := 75) hC dX12_mayBe_47 (by decide) h (fun c47 h => ?_) (fun c47 h => ?_)
        · exact g_sub [0, 1, 2, 3, 4] rfl (k_X12_mayBe_75 hC hO hR hf t ht1 ht2 x1 x2 x4 x5 (f_X12_mayBe_27 t x1 x2 n) ih σ h)
        · refine g_aload_n hC dX12_mayBe_50 rfl 0 rfl ?_
          refine g_iload hC dX12_mayBe_51 4 rfl ?_
          obtain ⟨q2, hq2, h⟩ := bd_of h hf
          refine g_cVI (As := [.int x5]) hC hO (c_X12_isIn _ hC.2.2.2.2.2.2.1 t ht1 ht2 x5 σ (nn_of hq2)) gc_X12_223 (xk_X12_isIn _ (Nat.le_of_ble_eq_true rfl) (Nat.le_of_ble_eq_true rfl)) cr12 ht1 ht2 rfl (Nat.le_of_ble_eq_true rfl) dX12_mayBe_53 hq2 ?_
          refine g_if_eq (tgt := 75) hC dX12_mayBe_56 (by decide) h (fun c56 h => ?_) (fun c56 h => ?_)
          · exact g_sub [0, 1, 2, 3, 4] rfl (k_X12_mayBe_75 hC hO hR hf t ht1 ht2 x1 x2 x4 x5 (f_X12_mayBe_27 t x1 x2 n) ih q2.2 h)
          · refine g_aload_n hC dX12_mayBe_59 rfl 0 rfl ?_
            refine g_iload_n hC dX12_mayBe_60 rfl 1 rfl ?_
            refine g_iload hC dX12_mayBe_61 4 rfl ?_
            obtain ⟨q3, hq3, h⟩ := bd_of h hf
            refine g_cVV (As := [.int x1, .int x5]) hC hO (c_X12_addsAbove _ hC.2.2.2.2.2.2.1 t ht1 ht2 x1 x5 q2.2 (nn_of hq3)) gc_X12_329 (xk_X12_addsAbove _ (Nat.le_of_ble_eq_true rfl) (Nat.le_of_ble_eq_true rfl)) cr12 ht1 ht2 rfl (Nat.le_of_ble_eq_true rfl) dX12_mayBe_63 hq3 ?_
            refine g_iinc (v := x4 + 1) (lv' := [(4, .int (x4 + 1)), (0, .ref (E.2.2.1 t)), (1, .int x1), (2, .int x2), (5, .int x5)]) hC dX12_mayBe_66 3 rfl rfl (by decide) rfl ?_
            refine g_aload_n hC dX12_mayBe_69 rfl 1 rfl ?_
            refine g_iload hC dX12_mayBe_70 0 rfl ?_
            obtain ⟨q4, hq4, h⟩ := bd_of h hf
            refine g_cVV (As := [.int (x4 + 1)]) hC hO (c_X12_findMore _ hC.2.2.2.2.2.2.1 t ht1 ht2 (x4 + 1) q3 (nn_of hq4)) gc_X12_332 (xk_X12_findMore _ (Nat.le_of_ble_eq_true rfl) (Nat.le_of_ble_eq_true rfl)) cr12 ht1 ht2 rfl (Nat.le_of_ble_eq_true rfl) dX12_mayBe_72 hq4 ?_
            exact g_sub [1, 2, 3, 0, 4] rfl (k_X12_mayBe_75 hC hO hR hf t ht1 ht2 x1 x2 (x4 + 1) x5 (f_X12_mayBe_27 t x1 x2 n) ih q4 h)
set_option maxHeartbeats 4000000 in
set_option maxRecDepth 100000 in
theorem k_X12_mayBe_20 {E : ET} {F : FT} {fo : Option (Int32 × HS)} (hC : Cx E F 6 cX12_mayBe RX12 GT) (hO : Ro F rm_X12_mayBe) (hR : RI E F .boolean fo) (hf : fo ≠ none) (s0 : Int32) (σ : HS) (h : f_X12_mayBe_20 s0 σ = fo) : G E F 20 [] [.int s0] σ := by
    obtain ⟨hz, h⟩ := zr_of h hf
    exact g_iret hC hR dX12_mayBe_20 hz h
set_option maxHeartbeats 4000000 in
set_option maxRecDepth 100000 in
theorem k_X12_mayBe_0 {E : ET} {F : FT} {fo : Option (Int32 × HS)} (hC : Cx E F 6 cX12_mayBe RX12 GT) (hO : Ro F rm_X12_mayBe) (hR : RI E F .boolean fo) (hf : fo ≠ none) (t : Nat) (ht1 : kd t = 12) (ht2 : AL E t) (x1 : Int32) (x2 : Int32) (σ : HS) (h : f_X12_mayBe t x1 x2 σ = fo) : G E F 0 [(0, .ref (E.2.2.1 t)), (1, .int x1), (2, .int x2)] [] σ := by
    refine g_aload_n hC dX12_mayBe_0 rfl 0 rfl ?_
    refine g_iload_n hC dX12_mayBe_1 rfl 1 rfl ?_
    refine g_iload_n hC dX12_mayBe_2 rfl 2 rfl ?_
    obtain ⟨q1, hq1, h⟩ := bd_of h hf
    refine g_cVI (As := [.int x1, .int x2]) hC hO (c_X12_soonMay _ hC.2.2.2.2.2.2.1 t ht1 ht2 x1 x2 σ (nn_of hq1)) gc_X12_326 (xk_X12_soonMay _ (Nat.le_of_ble_eq_true rfl) (Nat.le_of_ble_eq_true rfl)) cr12 ht1 ht2 rfl (Nat.le_of_ble_eq_true rfl) dX12_mayBe_3 hq1 ?_
    refine g_istore_n (lv' := [(3, .int q1.1), (0, .ref (E.2.2.1 t)), (1, .int x1), (2, .int x2)]) hC dX12_mayBe_6 rfl (by decide) rfl ?_
    refine g_iload_n hC dX12_mayBe_7 rfl 0 rfl ?_
    refine g_if_eq (tgt := 21) hC dX12_mayBe_8 (by decide) h (fun c8 h => ?_) (fun c8 h => ?_)
    · refine g_iload_n hC dX12_mayBe_21 rfl 3 rfl ?_
      refine g_istore (lv' := [(4, .int x2), (3, .int q1.1), (0, .ref (E.2.2.1 t)), (1, .int x1), (2, .int x2)]) hC dX12_mayBe_22 (by decide) rfl ?_
      refine g_iconst (v := 0) hC dX12_mayBe_24 (by decide) ?_
      refine g_istore (lv' := [(5, .int 0), (4, .int x2), (3, .int q1.1), (0, .ref (E.2.2.1 t)), (1, .int x1), (2, .int x2)]) hC dX12_mayBe_25 (by decide) rfl ?_
      exact g_sub [3, 4, 5, 1, 0] rfl (k_X12_mayBe_27 hC hO hR hf t ht1 ht2 x1 x2 FU x2 0 q1.2 h)
    · refine g_iload_n hC dX12_mayBe_11 rfl 0 rfl ?_
      refine g_if_le (tgt := 19) hC dX12_mayBe_12 (by decide) h (fun c12 h => ?_) (fun c12 h => ?_)
      · refine g_iconst (v := 0) hC dX12_mayBe_19 (by decide) ?_
        exact g_sub [] rfl (k_X12_mayBe_20 hC hO hR hf 0 q1.2 h)
      · refine g_iconst (v := 1) hC dX12_mayBe_15 (by decide) ?_
        refine g_goto (tgt := 20) hC dX12_mayBe_16 (by decide) ?_
        exact g_sub [] rfl (k_X12_mayBe_20 hC hO hR hf 1 q1.2 h)
theorem xk_X12_mayBe (R : Room) (h1 : 6 + 1 ≤ R.frames) (h2 : 253 ≤ R.locals) : xw R yX12_mayBe w_X12_mayBe GT cX12_mayBe 6 (some .boolean) rm_X12_mayBe 2 := ⟨rfl, rfl, rfl, h1, h2, ⟨by decide, by decide⟩, by decide +kernel⟩
theorem c_X12_mayBe (E : ET) (hE : EO E) (t : Nat) (ht1 : kd t = 12) (ht2 : AL E t) (x1 : Int32) (x2 : Int32) (σ : HS) (hn : f_X12_mayBe t x1 x2 σ ≠ none) : CoI E yX12_mayBe w_X12_mayBe rm_X12_mayBe [.ref (E.2.2.1 t), .int x1, .int x2] σ (f_X12_mayBe t x1 x2 σ) := CoI.of (lv := [(0, .ref (E.2.2.1 t)), (1, .int x1), (2, .int x2)]) hE (plainFor_of_name (by decide)) rfl (Nat.le_of_ble_eq_true rfl) rfl (fun F hC hO hR => k_X12_mayBe_0 hC hO hR hn t ht1 ht2 x1 x2 σ rfl)
def rm_X12_mayBest : Room := { frames := 7, cells := 0, slots := 0, locals := 253 }
theorem wc_X12_mayBe : Cond.code yX12_mayBe cX12_mayBe 6 (some .boolean) ∈ GT := gtr_42 _ (List.mem_of_getElem? (i := 1) rfl)
theorem gc_X12_338 : GoodIn GT (wsV RX12 338 RX12 yX12_mayBe w_X12_mayBe) := gi_V (gtr_41 _ (List.mem_of_getElem? (i := 22) rfl)) (gtr_41 _ (List.mem_of_getElem? (i := 23) rfl)) (gtr_42 _ (List.mem_of_getElem? (i := 0) rfl)) (gtr_1 _ (List.mem_of_getElem? (i := 5) rfl)) wc_X12_mayBe
set_option maxHeartbeats 4000000 in
set_option maxRecDepth 100000 in
theorem k_X12_mayBest_35 {E : ET} {F : FT} {fo : Option (Int32 × HS)} (hC : Cx E F 4 cX12_mayBest RX12 GT) (hO : Ro F rm_X12_mayBest) (hR : RI E F .int fo) (hf : fo ≠ none) (t : Nat) (ht1 : kd t = 12) (ht2 : AL E t) (x1 : Int32) (x3 : Int32) (s0 : Int32) (s1 : Int32) (r4 : Int32 → Int32 → HS → Option (Int32 × HS)) (h4 : ∀ (x2 : Int32) (x3 : Int32) (σ : HS), r4 x2 x3 σ = fo → G E F 4 [(0, .ref (E.2.2.1 t)), (1, .int x1), (2, .int x2), (3, .int x3)] [] σ) (σ : HS) (h : f_X12_mayBest_35 r4 t x1 x3 s0 s1 σ = fo) : G E F 35 [(0, .ref (E.2.2.1 t)), (1, .int x1), (3, .int x3)] [.int s0, .int s1] σ := by
    refine g_ior hC dX12_mayBest_35 ?_
    refine g_istore_n (lv' := [(2, .int (s1 ||| s0)), (0, .ref (E.2.2.1 t)), (1, .int x1), (3, .int x3)]) hC dX12_mayBest_36 rfl (by decide) rfl ?_
    refine g_iinc (v := x3 + 1) (lv' := [(3, .int (x3 + 1)), (2, .int (s1 ||| s0)), (0, .ref (E.2.2.1 t)), (1, .int x1)]) hC dX12_mayBest_37 3 rfl rfl (by decide) rfl ?_
    refine g_goto (tgt := 4) hC dX12_mayBest_40 (by decide) ?_
    exact g_sub [2, 3, 1, 0] rfl (h4 (s1 ||| s0) (x3 + 1) σ h)
set_option maxHeartbeats 4000000 in
set_option maxRecDepth 100000 in
theorem k_X12_mayBest_34 {E : ET} {F : FT} {fo : Option (Int32 × HS)} (hC : Cx E F 4 cX12_mayBest RX12 GT) (hO : Ro F rm_X12_mayBest) (hR : RI E F .int fo) (hf : fo ≠ none) (t : Nat) (ht1 : kd t = 12) (ht2 : AL E t) (x1 : Int32) (x3 : Int32) (s0 : Int32) (r4 : Int32 → Int32 → HS → Option (Int32 × HS)) (h4 : ∀ (x2 : Int32) (x3 : Int32) (σ : HS), r4 x2 x3 σ = fo → G E F 4 [(0, .ref (E.2.2.1 t)), (1, .int x1), (2, .int x2), (3, .int x3)] [] σ) (σ : HS) (h : f_X12_mayBest_34 r4 t x1 x3 s0 σ = fo) : G E F 34 [(0, .ref (E.2.2.1 t)), (1, .int x1), (3, .int x3)] [.int s0] σ := by
    refine g_iconst (v := 0) hC dX12_mayBest_34 (by decide) ?_
    exact g_sub [0, 1, 2] rfl (k_X12_mayBest_35 hC hO hR hf t ht1 ht2 x1 x3 0 s0 r4 h4 σ h)
set_option maxHeartbeats 4000000 in
set_option maxRecDepth 100000 in
theorem k_X12_mayBest_4 {E : ET} {F : FT} {fo : Option (Int32 × HS)} (hC : Cx E F 4 cX12_mayBest RX12 GT) (hO : Ro F rm_X12_mayBest) (hR : RI E F .int fo) (hf : fo ≠ none) (t : Nat) (ht1 : kd t = 12) (ht2 : AL E t) (x1 : Int32) : ∀ (n : Nat) (x2 : Int32) (x3 : Int32) (σ : HS), f_X12_mayBest_4 t x1 n x2 x3 σ = fo → G E F 4 [(0, .ref (E.2.2.1 t)), (1, .int x1), (2, .int x2), (3, .int x3)] [] σ := by
  intro n
  induction n with
  | zero =>
    intro x2 x3 σ h
    exact absurd (h.symm.trans rfl) hf
  | succ n ih =>
    intro x2 x3 σ h
    refine g_iload_n hC dX12_mayBest_4 rfl 3 rfl ?_
    refine g_bipush (v := 8) hC dX12_mayBest_5 (by decide) ?_
    refine g_icmp_ge (tgt := 43) hC dX12_mayBest_7 (by decide) h (fun c7 h => ?_) (fun c7 h => ?_)
    · refine g_iload_n hC dX12_mayBest_43 rfl 2 rfl ?_
      exact g_iret hC hR dX12_mayBest_44 rfl h
    · refine g_iload_n hC dX12_mayBest_10 rfl 2 rfl ?_
      refine g_aload_n hC dX12_mayBest_11 rfl 0 rfl ?_
      refine g_iload_n hC dX12_mayBest_12 rfl 3 rfl ?_
      obtain ⟨q1, hq1, h⟩ := bd_of h hf
      refine g_cVI (As := [.int x3]) hC hO (c_X12_isIn _ hC.2.2.2.2.2.2.1 t ht1 ht2 x3 σ (nn_of hq1)) gc_X12_223 (xk_X12_isIn _ (Nat.le_of_ble_eq_true rfl) (Nat.le_of_ble_eq_true rfl)) cr12 ht1 ht2 rfl (Nat.le_of_ble_eq_true rfl) dX12_mayBest_13 hq1 ?_
      refine g_if_eq (tgt := 34) hC dX12_mayBest_16 (by decide) h (fun c16 h => ?_) (fun c16 h => ?_)
      · exact g_sub [0, 1, 3] rfl (k_X12_mayBest_34 hC hO hR hf t ht1 ht2 x1 x3 x2 (f_X12_mayBest_4 t x1 n) ih q1.2 h)
      · refine g_aload_n hC dX12_mayBest_19 rfl 0 rfl ?_
        refine g_iload_n hC dX12_mayBest_20 rfl 3 rfl ?_
        refine g_iload_n hC dX12_mayBest_21 rfl 1 rfl ?_
        obtain ⟨q2, hq2, h⟩ := bd_of h hf
        refine g_cVI (As := [.int x3, .int x1]) hC hO (c_X12_mayBe _ hC.2.2.2.2.2.2.1 t ht1 ht2 x3 x1 q1.2 (nn_of hq2)) gc_X12_338 (xk_X12_mayBe _ (Nat.le_of_ble_eq_true rfl) (Nat.le_of_ble_eq_true rfl)) cr12 ht1 ht2 rfl (Nat.le_of_ble_eq_true rfl) dX12_mayBest_22 hq2 ?_
        refine g_if_eq (tgt := 34) hC dX12_mayBest_25 (by decide) h (fun c25 h => ?_) (fun c25 h => ?_)
        · exact g_sub [0, 1, 3] rfl (k_X12_mayBest_34 hC hO hR hf t ht1 ht2 x1 x3 x2 (f_X12_mayBest_4 t x1 n) ih q2.2 h)
        · refine g_iconst (v := 1) hC dX12_mayBest_28 (by decide) ?_
          refine g_iload_n hC dX12_mayBest_29 rfl 3 rfl ?_
          refine g_ishl hC dX12_mayBest_30 ?_
          refine g_goto (tgt := 35) hC dX12_mayBest_31 (by decide) ?_
          exact g_sub [0, 1, 3] rfl (k_X12_mayBest_35 hC hO hR hf t ht1 ht2 x1 x3 ((1 : Int32) <<< (x3 &&& 31)) x2 (f_X12_mayBest_4 t x1 n) ih q2.2 h)
set_option maxHeartbeats 4000000 in
set_option maxRecDepth 100000 in
theorem k_X12_mayBest_0 {E : ET} {F : FT} {fo : Option (Int32 × HS)} (hC : Cx E F 4 cX12_mayBest RX12 GT) (hO : Ro F rm_X12_mayBest) (hR : RI E F .int fo) (hf : fo ≠ none) (t : Nat) (ht1 : kd t = 12) (ht2 : AL E t) (x1 : Int32) (σ : HS) (h : f_X12_mayBest t x1 σ = fo) : G E F 0 [(0, .ref (E.2.2.1 t)), (1, .int x1)] [] σ := by
    refine g_iconst (v := 0) hC dX12_mayBest_0 (by decide) ?_
    refine g_istore_n (lv' := [(2, .int 0), (0, .ref (E.2.2.1 t)), (1, .int x1)]) hC dX12_mayBest_1 rfl (by decide) rfl ?_
    refine g_iconst (v := 0) hC dX12_mayBest_2 (by decide) ?_
    refine g_istore_n (lv' := [(3, .int 0), (2, .int 0), (0, .ref (E.2.2.1 t)), (1, .int x1)]) hC dX12_mayBest_3 rfl (by decide) rfl ?_
    exact g_sub [2, 3, 1, 0] rfl (k_X12_mayBest_4 hC hO hR hf t ht1 ht2 x1 FU 0 0 σ h)
theorem xk_X12_mayBest (R : Room) (h1 : 7 + 1 ≤ R.frames) (h2 : 288 ≤ R.locals) : xw R yX12_mayBest w_X12_mayBest GT cX12_mayBest 4 (some .int) rm_X12_mayBest 1 := ⟨rfl, rfl, rfl, h1, h2, ⟨by decide, by decide⟩, by decide +kernel⟩
theorem c_X12_mayBest (E : ET) (hE : EO E) (t : Nat) (ht1 : kd t = 12) (ht2 : AL E t) (x1 : Int32) (σ : HS) (hn : f_X12_mayBest t x1 σ ≠ none) : CoI E yX12_mayBest w_X12_mayBest rm_X12_mayBest [.ref (E.2.2.1 t), .int x1] σ (f_X12_mayBest t x1 σ) := CoI.of (lv := [(0, .ref (E.2.2.1 t)), (1, .int x1)]) hE (plainFor_of_name (by decide)) rfl (Nat.le_of_ble_eq_true rfl) rfl (fun F hC hO hR => k_X12_mayBest_0 hC hO hR hn t ht1 ht2 x1 σ rfl)
def rm_X12_sureBest : Room := { frames := 7, cells := 0, slots := 0, locals := 250 }
theorem wc_X12_isSure : Cond.code yX12_isSure cX12_isSure 5 (some .boolean) ∈ GT := gtr_43 _ (List.mem_of_getElem? (i := 1) rfl)
theorem gc_X12_342 : GoodIn GT (wsV RX12 342 RX12 yX12_isSure w_X12_isSure) := gi_V (gtr_42 _ (List.mem_of_getElem? (i := 22) rfl)) (gtr_42 _ (List.mem_of_getElem? (i := 23) rfl)) (gtr_43 _ (List.mem_of_getElem? (i := 0) rfl)) (gtr_1 _ (List.mem_of_getElem? (i := 5) rfl)) wc_X12_isSure
set_option maxHeartbeats 4000000 in
set_option maxRecDepth 100000 in
theorem k_X12_sureBest_35 {E : ET} {F : FT} {fo : Option (Int32 × HS)} (hC : Cx E F 4 cX12_sureBest RX12 GT) (hO : Ro F rm_X12_sureBest) (hR : RI E F .int fo) (hf : fo ≠ none) (t : Nat) (ht1 : kd t = 12) (ht2 : AL E t) (x1 : Int32) (x3 : Int32) (s0 : Int32) (s1 : Int32) (r4 : Int32 → Int32 → HS → Option (Int32 × HS)) (h4 : ∀ (x2 : Int32) (x3 : Int32) (σ : HS), r4 x2 x3 σ = fo → G E F 4 [(0, .ref (E.2.2.1 t)), (1, .int x1), (2, .int x2), (3, .int x3)] [] σ) (σ : HS) (h : f_X12_sureBest_35 r4 t x1 x3 s0 s1 σ = fo) : G E F 35 [(0, .ref (E.2.2.1 t)), (1, .int x1), (3, .int x3)] [.int s0, .int s1] σ := by
    refine g_ior hC dX12_sureBest_35 ?_
    refine g_istore_n (lv' := [(2, .int (s1 ||| s0)), (0, .ref (E.2.2.1 t)), (1, .int x1), (3, .int x3)]) hC dX12_sureBest_36 rfl (by decide) rfl ?_
    refine g_iinc (v := x3 + 1) (lv' := [(3, .int (x3 + 1)), (2, .int (s1 ||| s0)), (0, .ref (E.2.2.1 t)), (1, .int x1)]) hC dX12_sureBest_37 3 rfl rfl (by decide) rfl ?_
    refine g_goto (tgt := 4) hC dX12_sureBest_40 (by decide) ?_
    exact g_sub [2, 3, 1, 0] rfl (h4 (s1 ||| s0) (x3 + 1) σ h)
set_option maxHeartbeats 4000000 in
set_option maxRecDepth 100000 in
theorem k_X12_sureBest_34 {E : ET} {F : FT} {fo : Option (Int32 × HS)} (hC : Cx E F 4 cX12_sureBest RX12 GT) (hO : Ro F rm_X12_sureBest) (hR : RI E F .int fo) (hf : fo ≠ none) (t : Nat) (ht1 : kd t = 12) (ht2 : AL E t) (x1 : Int32) (x3 : Int32) (s0 : Int32) (r4 : Int32 → Int32 → HS → Option (Int32 × HS)) (h4 : ∀ (x2 : Int32) (x3 : Int32) (σ : HS), r4 x2 x3 σ = fo → G E F 4 [(0, .ref (E.2.2.1 t)), (1, .int x1), (2, .int x2), (3, .int x3)] [] σ) (σ : HS) (h : f_X12_sureBest_34 r4 t x1 x3 s0 σ = fo) : G E F 34 [(0, .ref (E.2.2.1 t)), (1, .int x1), (3, .int x3)] [.int s0] σ := by
    refine g_iconst (v := 0) hC dX12_sureBest_34 (by decide) ?_
    exact g_sub [0, 1, 2] rfl (k_X12_sureBest_35 hC hO hR hf t ht1 ht2 x1 x3 0 s0 r4 h4 σ h)
set_option maxHeartbeats 4000000 in
set_option maxRecDepth 100000 in
theorem k_X12_sureBest_4 {E : ET} {F : FT} {fo : Option (Int32 × HS)} (hC : Cx E F 4 cX12_sureBest RX12 GT) (hO : Ro F rm_X12_sureBest) (hR : RI E F .int fo) (hf : fo ≠ none) (t : Nat) (ht1 : kd t = 12) (ht2 : AL E t) (x1 : Int32) : ∀ (n : Nat) (x2 : Int32) (x3 : Int32) (σ : HS), f_X12_sureBest_4 t x1 n x2 x3 σ = fo → G E F 4 [(0, .ref (E.2.2.1 t)), (1, .int x1), (2, .int x2), (3, .int x3)] [] σ := by
  intro n
  induction n with
  | zero =>
    intro x2 x3 σ h
    exact absurd (h.symm.trans rfl) hf
  | succ n ih =>
    intro x2 x3 σ h
    refine g_iload_n hC dX12_sureBest_4 rfl 3 rfl ?_
    refine g_bipush (v := 8) hC dX12_sureBest_5 (by decide) ?_
    refine g_icmp_ge (tgt := 43) hC dX12_sureBest_7 (by decide) h (fun c7 h => ?_) (fun c7 h => ?_)
    · refine g_iload_n hC dX12_sureBest_43 rfl 2 rfl ?_
      exact g_iret hC hR dX12_sureBest_44 rfl h
    · refine g_iload_n hC dX12_sureBest_10 rfl 2 rfl ?_
      refine g_aload_n hC dX12_sureBest_11 rfl 0 rfl ?_
      refine g_iload_n hC dX12_sureBest_12 rfl 3 rfl ?_
      obtain ⟨q1, hq1, h⟩ := bd_of h hf
      refine g_cVI (As := [.int x3]) hC hO (c_X12_isIn _ hC.2.2.2.2.2.2.1 t ht1 ht2 x3 σ (nn_of hq1)) gc_X12_223 (xk_X12_isIn _ (Nat.le_of_ble_eq_true rfl) (Nat.le_of_ble_eq_true rfl)) cr12 ht1 ht2 rfl (Nat.le_of_ble_eq_true rfl) dX12_sureBest_13 hq1 ?_
      refine g_if_eq (tgt := 34) hC dX12_sureBest_16 (by decide) h (fun c16 h => ?_) (fun c16 h => ?_)
      · exact g_sub [0, 1, 3] rfl (k_X12_sureBest_34 hC hO hR hf t ht1 ht2 x1 x3 x2 (f_X12_sureBest_4 t x1 n) ih q1.2 h)
      · refine g_aload_n hC dX12_sureBest_19 rfl 0 rfl ?_
        refine g_iload_n hC dX12_sureBest_20 rfl 3 rfl ?_
        refine g_iload_n hC dX12_sureBest_21 rfl 1 rfl ?_
        obtain ⟨q2, hq2, h⟩ := bd_of h hf
        refine g_cVI (As := [.int x3, .int x1]) hC hO (c_X12_isSure _ hC.2.2.2.2.2.2.1 t ht1 ht2 x3 x1 q1.2 (nn_of hq2)) gc_X12_342 (xk_X12_isSure _ (Nat.le_of_ble_eq_true rfl) (Nat.le_of_ble_eq_true rfl)) cr12 ht1 ht2 rfl (Nat.le_of_ble_eq_true rfl) dX12_sureBest_22 hq2 ?_
        refine g_if_eq (tgt := 34) hC dX12_sureBest_25 (by decide) h (fun c25 h => ?_) (fun c25 h => ?_)
        · exact g_sub [0, 1, 3] rfl (k_X12_sureBest_34 hC hO hR hf t ht1 ht2 x1 x3 x2 (f_X12_sureBest_4 t x1 n) ih q2.2 h)
        · refine g_iconst (v := 1) hC dX12_sureBest_28 (by decide) ?_
          refine g_iload_n hC dX12_sureBest_29 rfl 3 rfl ?_
          refine g_ishl hC dX12_sureBest_30 ?_
          refine g_goto (tgt := 35) hC dX12_sureBest_31 (by decide) ?_
          exact g_sub [0, 1, 3] rfl (k_X12_sureBest_35 hC hO hR hf t ht1 ht2 x1 x3 ((1 : Int32) <<< (x3 &&& 31)) x2 (f_X12_sureBest_4 t x1 n) ih q2.2 h)
set_option maxHeartbeats 4000000 in
set_option maxRecDepth 100000 in
theorem k_X12_sureBest_0 {E : ET} {F : FT} {fo : Option (Int32 × HS)} (hC : Cx E F 4 cX12_sureBest RX12 GT) (hO : Ro F rm_X12_sureBest) (hR : RI E F .int fo) (hf : fo ≠ none) (t : Nat) (ht1 : kd t = 12) (ht2 : AL E t) (x1 : Int32) (σ : HS) (h : f_X12_sureBest t x1 σ = fo) : G E F 0 [(0, .ref (E.2.2.1 t)), (1, .int x1)] [] σ := by
    refine g_iconst (v := 0) hC dX12_sureBest_0 (by decide) ?_
    refine g_istore_n (lv' := [(2, .int 0), (0, .ref (E.2.2.1 t)), (1, .int x1)]) hC dX12_sureBest_1 rfl (by decide) rfl ?_
    refine g_iconst (v := 0) hC dX12_sureBest_2 (by decide) ?_
    refine g_istore_n (lv' := [(3, .int 0), (2, .int 0), (0, .ref (E.2.2.1 t)), (1, .int x1)]) hC dX12_sureBest_3 rfl (by decide) rfl ?_
    exact g_sub [2, 3, 1, 0] rfl (k_X12_sureBest_4 hC hO hR hf t ht1 ht2 x1 FU 0 0 σ h)
theorem xk_X12_sureBest (R : Room) (h1 : 7 + 1 ≤ R.frames) (h2 : 285 ≤ R.locals) : xw R yX12_sureBest w_X12_sureBest GT cX12_sureBest 4 (some .int) rm_X12_sureBest 1 := ⟨rfl, rfl, rfl, h1, h2, ⟨by decide, by decide⟩, by decide +kernel⟩
theorem c_X12_sureBest (E : ET) (hE : EO E) (t : Nat) (ht1 : kd t = 12) (ht2 : AL E t) (x1 : Int32) (σ : HS) (hn : f_X12_sureBest t x1 σ ≠ none) : CoI E yX12_sureBest w_X12_sureBest rm_X12_sureBest [.ref (E.2.2.1 t), .int x1] σ (f_X12_sureBest t x1 σ) := CoI.of (lv := [(0, .ref (E.2.2.1 t)), (1, .int x1)]) hE (plainFor_of_name (by decide)) rfl (Nat.le_of_ble_eq_true rfl) rfl (fun F hC hO hR => k_X12_sureBest_0 hC hO hR hn t ht1 ht2 x1 σ rfl)
def rm_X12_bits : Room := { frames := 0, cells := 0, slots := 0, locals := 0 }
set_option maxHeartbeats 4000000 in
set_option maxRecDepth 100000 in
theorem k_X12_bits_4 {E : ET} {F : FT} {fo : Option (Int32 × HS)} (hC : Cx E F 3 cX12_bits RX12 GT) (hO : Ro F rm_X12_bits) (hR : RI E F .int fo) (hf : fo ≠ none) (x0 : Int32) : ∀ (n : Nat) (x1 : Int32) (x2 : Int32) (σ : HS), f_X12_bits_4 x0 n x1 x2 σ = fo → G E F 4 [(0, .int x0), (1, .int x1), (2, .int x2)] [] σ := by
  intro n
  induction n with
  | zero =>
    intro x1 x2 σ h
    exact absurd (h.symm.trans rfl) hf
  | succ n ih =>
    intro x1 x2 σ h
    refine g_iload_n hC dX12_bits_4 rfl 2 rfl ?_
    refine g_bipush (v := 12) hC dX12_bits_5 (by decide) ?_
    refine g_icmp_ge (tgt := 24) hC dX12_bits_7 (by decide) h (fun c7 h => ?_) (fun c7 h => ?_)
    · refine g_iload_n hC dX12_bits_24 rfl 1 rfl ?_
      exact g_iret hC hR dX12_bits_25 rfl h
    · refine g_iload_n hC dX12_bits_10 rfl 1 rfl ?_
      refine g_iload_n hC dX12_bits_11 rfl 0 rfl ?_
      refine g_iload_n hC dX12_bits_12 rfl 2 rfl ?_
      refine g_ishr hC dX12_bits_13 ?_
      refine g_iconst (v := 1) hC dX12_bits_14 (by decide) ?_
      refine g_iand hC dX12_bits_15 ?_
      refine g_iadd hC dX12_bits_16 ?_
      refine g_istore_n (lv' := [(1, .int (x1 + ((x0 >>> (x2 &&& 31)) &&& 1))), (0, .int x0), (2, .int x2)]) hC dX12_bits_17 rfl (by decide) rfl ?_
      refine g_iinc (v := x2 + 1) (lv' := [(2, .int (x2 + 1)), (1, .int (x1 + ((x0 >>> (x2 &&& 31)) &&& 1))), (0, .int x0)]) hC dX12_bits_18 2 rfl rfl (by decide) rfl ?_
      refine g_goto (tgt := 4) hC dX12_bits_21 (by decide) ?_
      exact g_sub [2, 1, 0] rfl (ih (x1 + ((x0 >>> (x2 &&& 31)) &&& 1)) (x2 + 1) σ h)
set_option maxHeartbeats 4000000 in
set_option maxRecDepth 100000 in
theorem k_X12_bits_0 {E : ET} {F : FT} {fo : Option (Int32 × HS)} (hC : Cx E F 3 cX12_bits RX12 GT) (hO : Ro F rm_X12_bits) (hR : RI E F .int fo) (hf : fo ≠ none) (x0 : Int32) (σ : HS) (h : f_X12_bits x0 σ = fo) : G E F 0 [(0, .int x0)] [] σ := by
    refine g_iconst (v := 0) hC dX12_bits_0 (by decide) ?_
    refine g_istore_n (lv' := [(1, .int 0), (0, .int x0)]) hC dX12_bits_1 rfl (by decide) rfl ?_
    refine g_iconst (v := 0) hC dX12_bits_2 (by decide) ?_
    refine g_istore_n (lv' := [(2, .int 0), (1, .int 0), (0, .int x0)]) hC dX12_bits_3 rfl (by decide) rfl ?_
    exact g_sub [2, 1, 0] rfl (k_X12_bits_4 hC hO hR hf x0 FU 0 0 σ h)
theorem xk_X12_bits (R : Room) (h1 : 0 + 1 ≤ R.frames) (h2 : 34 ≤ R.locals) : xw R yX12_bits w_X12_bits GT cX12_bits 3 (some .int) rm_X12_bits 1 := ⟨rfl, rfl, rfl, h1, h2, ⟨by decide, by decide⟩, by decide +kernel⟩
theorem c_X12_bits (E : ET) (hE : EO E) (x0 : Int32) (σ : HS) (hn : f_X12_bits x0 σ ≠ none) : CoI E yX12_bits w_X12_bits rm_X12_bits [.int x0] σ (f_X12_bits x0 σ) := CoI.of (lv := [(0, .int x0)]) hE (plainFor_of_name (by decide)) rfl (Nat.le_of_ble_eq_true rfl) rfl (fun F hC hO hR => k_X12_bits_0 hC hO hR hn x0 σ rfl)
def rm_X12_areWeights : Room := { frames := 1, cells := 0, slots := 0, locals := 34 }
set_option maxHeartbeats 4000000 in
set_option maxRecDepth 100000 in
theorem k_X12_areWeights_145 {E : ET} {F : FT} {fo : Option (Int32 × HS)} (hC : Cx E F 6 cX12_areWeights RX12 GT) (hO : Ro F rm_X12_areWeights) (hR : RI E F .boolean fo) (hf : fo ≠ none) (s0 : Int32) (σ : HS) (h : f_X12_areWeights_145 s0 σ = fo) : G E F 145 [] [.int s0] σ := by
    obtain ⟨hz, h⟩ := zr_of h hf
    exact g_iret hC hR dX12_areWeights_145 hz h
set_option maxHeartbeats 4000000 in
set_option maxRecDepth 100000 in
theorem k_X12_areWeights_144 {E : ET} {F : FT} {fo : Option (Int32 × HS)} (hC : Cx E F 6 cX12_areWeights RX12 GT) (hO : Ro F rm_X12_areWeights) (hR : RI E F .boolean fo) (hf : fo ≠ none) (σ : HS) (h : f_X12_areWeights_144 σ = fo) : G E F 144 [] [] σ := by
    refine g_iconst (v := 0) hC dX12_areWeights_144 (by decide) ?_
    exact g_sub [] rfl (k_X12_areWeights_145 hC hO hR hf 0 σ h)
set_option maxHeartbeats 4000000 in
set_option maxRecDepth 100000 in
theorem k_X12_areWeights_136 {E : ET} {F : FT} {fo : Option (Int32 × HS)} (hC : Cx E F 6 cX12_areWeights RX12 GT) (hO : Ro F rm_X12_areWeights) (hR : RI E F .boolean fo) (hf : fo ≠ none) (s0 : Int32) (s1 : Int32) (σ : HS) (h : f_X12_areWeights_136 s0 s1 σ = fo) : G E F 136 [] [.int s0, .int s1] σ := by
    refine g_iadd hC dX12_areWeights_136 ?_
    refine g_if_le (tgt := 144) hC dX12_areWeights_137 (by decide) h (fun c137 h => ?_) (fun c137 h => ?_)
    · exact g_sub [] rfl (k_X12_areWeights_144 hC hO hR hf σ h)
    · refine g_iconst (v := 1) hC dX12_areWeights_140 (by decide) ?_
      refine g_goto (tgt := 145) hC dX12_areWeights_141 (by decide) ?_
      exact g_sub [] rfl (k_X12_areWeights_145 hC hO hR hf 1 σ h)
set_option maxHeartbeats 4000000 in
set_option maxRecDepth 100000 in
theorem k_X12_areWeights_121 {E : ET} {F : FT} {fo : Option (Int32 × HS)} (hC : Cx E F 6 cX12_areWeights RX12 GT) (hO : Ro F rm_X12_areWeights) (hR : RI E F .boolean fo) (hf : fo ≠ none) (t : Nat) (ht1 : kd t = 12) (ht2 : AL E t) (x4 : Int32) (s0 : Int32) (s1 : Int32) (σ : HS) (h : f_X12_areWeights_121 t x4 s0 s1 σ = fo) : G E F 121 [(0, .ref (E.2.2.1 t)), (4, .int x4)] [.int s0, .int s1] σ := by
    refine g_iadd hC dX12_areWeights_121 ?_
    refine g_aload_n hC dX12_areWeights_122 rfl 0 rfl ?_
    refine g_getI (k := 20) hC cr12 ui_12 ht1 ht2 (by decide) fl_X12_193 rfl rfl dX12_areWeights_123 ?_
    refine g_iconst (v := 4) hC dX12_areWeights_126 (by decide) ?_
    refine g_icmp_ge (tgt := 134) hC dX12_areWeights_127 (by decide) h (fun c127 h => ?_) (fun c127 h => ?_)
    · refine g_iload hC dX12_areWeights_134 1 rfl ?_
      exact g_sub [] rfl (k_X12_areWeights_136 hC hO hR hf x4 (s1 + s0) σ h)
    · refine g_iconst (v := 0) hC dX12_areWeights_130 (by decide) ?_
      refine g_goto (tgt := 136) hC dX12_areWeights_131 (by decide) ?_
      exact g_sub [] rfl (k_X12_areWeights_136 hC hO hR hf 0 (s1 + s0) σ h)
set_option maxHeartbeats 4000000 in
set_option maxRecDepth 100000 in
theorem k_X12_areWeights_107 {E : ET} {F : FT} {fo : Option (Int32 × HS)} (hC : Cx E F 6 cX12_areWeights RX12 GT) (hO : Ro F rm_X12_areWeights) (hR : RI E F .boolean fo) (hf : fo ≠ none) (t : Nat) (ht1 : kd t = 12) (ht2 : AL E t) (x3 : Int32) (x4 : Int32) (s0 : Int32) (s1 : Int32) (σ : HS) (h : f_X12_areWeights_107 t x3 x4 s0 s1 σ = fo) : G E F 107 [(0, .ref (E.2.2.1 t)), (3, .int x3), (4, .int x4)] [.int s0, .int s1] σ := by
    refine g_iadd hC dX12_areWeights_107 ?_
    refine g_aload_n hC dX12_areWeights_108 rfl 0 rfl ?_
    refine g_getI (k := 20) hC cr12 ui_12 ht1 ht2 (by decide) fl_X12_193 rfl rfl dX12_areWeights_109 ?_
    refine g_iconst (v := 3) hC dX12_areWeights_112 (by decide) ?_
    refine g_icmp_ge (tgt := 120) hC dX12_areWeights_113 (by decide) h (fun c113 h => ?_) (fun c113 h => ?_)
    · refine g_iload_n hC dX12_areWeights_120 rfl 1 rfl ?_
      exact g_sub [0, 2] rfl (k_X12_areWeights_121 hC hO hR hf t ht1 ht2 x4 x3 (s1 + s0) σ h)
    · refine g_iconst (v := 0) hC dX12_areWeights_116 (by decide) ?_
      refine g_goto (tgt := 121) hC dX12_areWeights_117 (by decide) ?_
      exact g_sub [0, 2] rfl (k_X12_areWeights_121 hC hO hR hf t ht1 ht2 x4 0 (s1 + s0) σ h)
set_option maxHeartbeats 4000000 in
set_option maxRecDepth 100000 in
theorem k_X12_areWeights_86 {E : ET} {F : FT} {fo : Option (Int32 × HS)} (hC : Cx E F 6 cX12_areWeights RX12 GT) (hO : Ro F rm_X12_areWeights) (hR : RI E F .boolean fo) (hf : fo ≠ none) (t : Nat) (ht1 : kd t = 12) (ht2 : AL E t) (x1 : Int32) (x2 : Int32) (x3 : Int32) (x4 : Int32) (s0 : Int32) (σ : HS) (h : f_X12_areWeights_86 t x1 x2 x3 x4 s0 σ = fo) : G E F 86 [(0, .ref (E.2.2.1 t)), (1, .int x1), (2, .int x2), (3, .int x3), (4, .int x4)] [.int s0] σ := by
    refine g_istore (lv' := [(5, .int s0), (0, .ref (E.2.2.1 t)), (1, .int x1), (2, .int x2), (3, .int x3), (4, .int x4)]) hC dX12_areWeights_86 (by decide) rfl ?_
    refine g_iload hC dX12_areWeights_88 0 rfl ?_
    refine g_if_eq (tgt := 144) hC dX12_areWeights_90 (by decide) h (fun c90 h => ?_) (fun c90 h => ?_)
    · exact g_sub [] rfl (k_X12_areWeights_144 hC hO hR hf σ h)
    · refine g_iload_n hC dX12_areWeights_93 rfl 2 rfl ?_
      refine g_aload_n hC dX12_areWeights_94 rfl 1 rfl ?_
      refine g_getI (k := 20) hC cr12 ui_12 ht1 ht2 (by decide) fl_X12_193 rfl rfl dX12_areWeights_95 ?_
      refine g_iconst (v := 2) hC dX12_areWeights_98 (by decide) ?_
      refine g_icmp_ge (tgt := 106) hC dX12_areWeights_99 (by decide) h (fun c99 h => ?_) (fun c99 h => ?_)
      · refine g_iload_n hC dX12_areWeights_106 rfl 3 rfl ?_
        exact g_sub [1, 4, 5] rfl (k_X12_areWeights_107 hC hO hR hf t ht1 ht2 x3 x4 x2 x1 σ h)
      · refine g_iconst (v := 0) hC dX12_areWeights_102 (by decide) ?_
        refine g_goto (tgt := 107) hC dX12_areWeights_103 (by decide) ?_
        exact g_sub [1, 4, 5] rfl (k_X12_areWeights_107 hC hO hR hf t ht1 ht2 x3 x4 0 x1 σ h)
set_option maxHeartbeats 4000000 in
set_option maxRecDepth 100000 in
theorem k_X12_areWeights_85 {E : ET} {F : FT} {fo : Option (Int32 × HS)} (hC : Cx E F 6 cX12_areWeights RX12 GT) (hO : Ro F rm_X12_areWeights) (hR : RI E F .boolean fo) (hf : fo ≠ none) (t : Nat) (ht1 : kd t = 12) (ht2 : AL E t) (x1 : Int32) (x2 : Int32) (x3 : Int32) (x4 : Int32) (σ : HS) (h : f_X12_areWeights_85 t x1 x2 x3 x4 σ = fo) : G E F 85 [(0, .ref (E.2.2.1 t)), (1, .int x1), (2, .int x2), (3, .int x3), (4, .int x4)] [] σ := by
    refine g_iconst (v := 0) hC dX12_areWeights_85 (by decide) ?_
    exact g_sub [0, 1, 2, 3, 4] rfl (k_X12_areWeights_86 hC hO hR hf t ht1 ht2 x1 x2 x3 x4 0 σ h)
set_option maxHeartbeats 4000000 in
set_option maxRecDepth 100000 in
theorem k_X12_areWeights_81 {E : ET} {F : FT} {fo : Option (Int32 × HS)} (hC : Cx E F 6 cX12_areWeights RX12 GT) (hO : Ro F rm_X12_areWeights) (hR : RI E F .boolean fo) (hf : fo ≠ none) (t : Nat) (ht1 : kd t = 12) (ht2 : AL E t) (x1 : Int32) (x2 : Int32) (x3 : Int32) (x4 : Int32) (σ : HS) (h : f_X12_areWeights_81 t x1 x2 x3 x4 σ = fo) : G E F 81 [(0, .ref (E.2.2.1 t)), (1, .int x1), (2, .int x2), (3, .int x3), (4, .int x4)] [] σ := by
    refine g_iconst (v := 1) hC dX12_areWeights_81 (by decide) ?_
    refine g_goto (tgt := 86) hC dX12_areWeights_82 (by decide) ?_
    exact g_sub [0, 1, 2, 3, 4] rfl (k_X12_areWeights_86 hC hO hR hf t ht1 ht2 x1 x2 x3 x4 1 σ h)
set_option maxHeartbeats 4000000 in
set_option maxRecDepth 100000 in
theorem k_X12_areWeights_61 {E : ET} {F : FT} {fo : Option (Int32 × HS)} (hC : Cx E F 6 cX12_areWeights RX12 GT) (hO : Ro F rm_X12_areWeights) (hR : RI E F .boolean fo) (hf : fo ≠ none) (t : Nat) (ht1 : kd t = 12) (ht2 : AL E t) (x1 : Int32) (x2 : Int32) (x3 : Int32) (x4 : Int32) (σ : HS) (h : f_X12_areWeights_61 t x1 x2 x3 x4 σ = fo) : G E F 61 [(0, .ref (E.2.2.1 t)), (1, .int x1), (2, .int x2), (3, .int x3), (4, .int x4)] [] σ := by
    refine g_aload_n hC dX12_areWeights_61 rfl 0 rfl ?_
    refine g_getI (k := 20) hC cr12 ui_12 ht1 ht2 (by decide) fl_X12_193 rfl rfl dX12_areWeights_62 ?_
    refine g_iconst (v := 4) hC dX12_areWeights_65 (by decide) ?_
    refine g_icmp_lt (tgt := 81) hC dX12_areWeights_66 (by decide) h (fun c66 h => ?_) (fun c66 h => ?_)
    · exact g_sub [0, 1, 2, 3, 4] rfl (k_X12_areWeights_81 hC hO hR hf t ht1 ht2 x1 x2 x3 x4 σ h)
    · refine g_iload hC dX12_areWeights_69 4 rfl ?_
      refine g_iconst (v := 0) hC dX12_areWeights_71 (by decide) ?_
      refine g_sipush (v := 999) hC dX12_areWeights_72 (by decide) ?_
      obtain ⟨q1, hq1, h⟩ := bd_of h hf
      refine g_cSI (As := [.int x4, .int 0, .int 999]) hC hO (c_X12_within _ hC.2.2.2.2.2.2.1 x4 0 999 σ (nn_of hq1)) gc_X12_213 (xk_X12_within _ (Nat.le_of_ble_eq_true rfl) (Nat.le_of_ble_eq_true rfl)) rfl (Nat.le_of_ble_eq_true rfl) dX12_areWeights_75 hq1 ?_
      refine g_if_eq (tgt := 85) hC dX12_areWeights_78 (by decide) h (fun c78 h => ?_) (fun c78 h => ?_)
      · exact g_sub [0, 1, 2, 3, 4] rfl (k_X12_areWeights_85 hC hO hR hf t ht1 ht2 x1 x2 x3 x4 q1.2 h)
      · exact g_sub [0, 1, 2, 3, 4] rfl (k_X12_areWeights_81 hC hO hR hf t ht1 ht2 x1 x2 x3 x4 q1.2 h)
set_option maxHeartbeats 4000000 in
set_option maxRecDepth 100000 in
theorem k_X12_areWeights_35 {E : ET} {F : FT} {fo : Option (Int32 × HS)} (hC : Cx E F 6 cX12_areWeights RX12 GT) (hO : Ro F rm_X12_areWeights) (hR : RI E F .boolean fo) (hf : fo ≠ none) (t : Nat) (ht1 : kd t = 12) (ht2 : AL E t) (x1 : Int32) (x2 : Int32) (x3 : Int32) (x4 : Int32) (s0 : Int32) (σ : HS) (h : f_X12_areWeights_35 t x1 x2 x3 x4 s0 σ = fo) : G E F 35 [(0, .ref (E.2.2.1 t)), (1, .int x1), (2, .int x2), (3, .int x3), (4, .int x4)] [.int s0] σ := by
    refine g_istore (lv' := [(5, .int s0), (0, .ref (E.2.2.1 t)), (1, .int x1), (2, .int x2), (3, .int x3), (4, .int x4)]) hC dX12_areWeights_35 (by decide) rfl ?_
    refine g_iload hC dX12_areWeights_37 0 rfl ?_
    refine g_if_eq (tgt := 85) hC dX12_areWeights_39 (by decide) h (fun c39 h => ?_) (fun c39 h => ?_)
    · exact g_sub [1, 2, 3, 4, 5] rfl (k_X12_areWeights_85 hC hO hR hf t ht1 ht2 x1 x2 x3 x4 σ h)
    · refine g_aload_n hC dX12_areWeights_42 rfl 1 rfl ?_
      refine g_getI (k := 20) hC cr12 ui_12 ht1 ht2 (by decide) fl_X12_193 rfl rfl dX12_areWeights_43 ?_
      refine g_iconst (v := 3) hC dX12_areWeights_46 (by decide) ?_
      refine g_icmp_lt (tgt := 61) hC dX12_areWeights_47 (by decide) h (fun c47 h => ?_) (fun c47 h => ?_)
      · exact g_sub [1, 2, 3, 4, 5] rfl (k_X12_areWeights_61 hC hO hR hf t ht1 ht2 x1 x2 x3 x4 σ h)
      · refine g_iload_n hC dX12_areWeights_50 rfl 4 rfl ?_
        refine g_iconst (v := 0) hC dX12_areWeights_51 (by decide) ?_
        refine g_sipush (v := 999) hC dX12_areWeights_52 (by decide) ?_
        obtain ⟨q1, hq1, h⟩ := bd_of h hf
        refine g_cSI (As := [.int x3, .int 0, .int 999]) hC hO (c_X12_within _ hC.2.2.2.2.2.2.1 x3 0 999 σ (nn_of hq1)) gc_X12_213 (xk_X12_within _ (Nat.le_of_ble_eq_true rfl) (Nat.le_of_ble_eq_true rfl)) rfl (Nat.le_of_ble_eq_true rfl) dX12_areWeights_55 hq1 ?_
        refine g_if_eq (tgt := 85) hC dX12_areWeights_58 (by decide) h (fun c58 h => ?_) (fun c58 h => ?_)
        · exact g_sub [1, 2, 3, 4, 5] rfl (k_X12_areWeights_85 hC hO hR hf t ht1 ht2 x1 x2 x3 x4 q1.2 h)
        · exact g_sub [1, 2, 3, 4, 5] rfl (k_X12_areWeights_61 hC hO hR hf t ht1 ht2 x1 x2 x3 x4 q1.2 h)
set_option maxHeartbeats 4000000 in
set_option maxRecDepth 100000 in
theorem k_X12_areWeights_34 {E : ET} {F : FT} {fo : Option (Int32 × HS)} (hC : Cx E F 6 cX12_areWeights RX12 GT) (hO : Ro F rm_X12_areWeights) (hR : RI E F .boolean fo) (hf : fo ≠ none) (t : Nat) (ht1 : kd t = 12) (ht2 : AL E t) (x1 : Int32) (x2 : Int32) (x3 : Int32) (x4 : Int32) (σ : HS) (h : f_X12_areWeights_34 t x1 x2 x3 x4 σ = fo) : G E F 34 [(0, .ref (E.2.2.1 t)), (1, .int x1), (2, .int x2), (3, .int x3), (4, .int x4)] [] σ := by
    refine g_iconst (v := 0) hC dX12_areWeights_34 (by decide) ?_
    exact g_sub [0, 1, 2, 3, 4] rfl (k_X12_areWeights_35 hC hO hR hf t ht1 ht2 x1 x2 x3 x4 0 σ h)
set_option maxHeartbeats 4000000 in
set_option maxRecDepth 100000 in
theorem k_X12_areWeights_30 {E : ET} {F : FT} {fo : Option (Int32 × HS)} (hC : Cx E F 6 cX12_areWeights RX12 GT) (hO : Ro F rm_X12_areWeights) (hR : RI E F .boolean fo) (hf : fo ≠ none) (t : Nat) (ht1 : kd t = 12) (ht2 : AL E t) (x1 : Int32) (x2 : Int32) (x3 : Int32) (x4 : Int32) (σ : HS) (h : f_X12_areWeights_30 t x1 x2 x3 x4 σ = fo) : G E F 30 [(0, .ref (E.2.2.1 t)), (1, .int x1), (2, .int x2), (3, .int x3), (4, .int x4)] [] σ := by
    refine g_iconst (v := 1) hC dX12_areWeights_30 (by decide) ?_
    refine g_goto (tgt := 35) hC dX12_areWeights_31 (by decide) ?_
    exact g_sub [0, 1, 2, 3, 4] rfl (k_X12_areWeights_35 hC hO hR hf t ht1 ht2 x1 x2 x3 x4 1 σ h)
set_option maxHeartbeats 4000000 in
set_option maxRecDepth 100000 in
theorem k_X12_areWeights_0 {E : ET} {F : FT} {fo : Option (Int32 × HS)} (hC : Cx E F 6 cX12_areWeights RX12 GT) (hO : Ro F rm_X12_areWeights) (hR : RI E F .boolean fo) (hf : fo ≠ none) (t : Nat) (ht1 : kd t = 12) (ht2 : AL E t) (x1 : Int32) (x2 : Int32) (x3 : Int32) (x4 : Int32) (σ : HS) (h : f_X12_areWeights t x1 x2 x3 x4 σ = fo) : G E F 0 [(0, .ref (E.2.2.1 t)), (1, .int x1), (2, .int x2), (3, .int x3), (4, .int x4)] [] σ := by
    refine g_iload_n hC dX12_areWeights_0 rfl 1 rfl ?_
    refine g_iconst (v := 0) hC dX12_areWeights_1 (by decide) ?_
    refine g_sipush (v := 999) hC dX12_areWeights_2 (by decide) ?_
    obtain ⟨q1, hq1, h⟩ := bd_of h hf
    refine g_cSI (As := [.int x1, .int 0, .int 999]) hC hO (c_X12_within _ hC.2.2.2.2.2.2.1 x1 0 999 σ (nn_of hq1)) gc_X12_213 (xk_X12_within _ (Nat.le_of_ble_eq_true rfl) (Nat.le_of_ble_eq_true rfl)) rfl (Nat.le_of_ble_eq_true rfl) dX12_areWeights_5 hq1 ?_
    refine g_if_eq (tgt := 34) hC dX12_areWeights_8 (by decide) h (fun c8 h => ?_) (fun c8 h => ?_)
    · exact g_sub [0, 1, 2, 3, 4] rfl (k_X12_areWeights_34 hC hO hR hf t ht1 ht2 x1 x2 x3 x4 q1.2 h)
    · refine g_aload_n hC dX12_areWeights_11 rfl 0 rfl ?_
      refine g_getI (k := 20) hC cr12 ui_12 ht1 ht2 (by decide) fl_X12_193 rfl rfl dX12_areWeights_12 ?_
      refine g_iconst (v := 2) hC dX12_areWeights_15 (by decide) ?_
      refine g_icmp_lt (tgt := 30) hC dX12_areWeights_16 (by decide) h (fun c16 h => ?_) (fun c16 h => ?_)
      · exact g_sub [0, 1, 2, 3, 4] rfl (k_X12_areWeights_30 hC hO hR hf t ht1 ht2 x1 x2 x3 x4 q1.2 h)
      · refine g_iload_n hC dX12_areWeights_19 rfl 2 rfl ?_
        refine g_iconst (v := 0) hC dX12_areWeights_20 (by decide) ?_
        refine g_sipush (v := 999) hC dX12_areWeights_21 (by decide) ?_
        obtain ⟨q2, hq2, h⟩ := bd_of h hf
        refine g_cSI (As := [.int x2, .int 0, .int 999]) hC hO (c_X12_within _ hC.2.2.2.2.2.2.1 x2 0 999 q1.2 (nn_of hq2)) gc_X12_213 (xk_X12_within _ (Nat.le_of_ble_eq_true rfl) (Nat.le_of_ble_eq_true rfl)) rfl (Nat.le_of_ble_eq_true rfl) dX12_areWeights_24 hq2 ?_
        refine g_if_eq (tgt := 34) hC dX12_areWeights_27 (by decide) h (fun c27 h => ?_) (fun c27 h => ?_)
        · exact g_sub [0, 1, 2, 3, 4] rfl (k_X12_areWeights_34 hC hO hR hf t ht1 ht2 x1 x2 x3 x4 q2.2 h)
        · exact g_sub [0, 1, 2, 3, 4] rfl (k_X12_areWeights_30 hC hO hR hf t ht1 ht2 x1 x2 x3 x4 q2.2 h)
theorem xk_X12_areWeights (R : Room) (h1 : 1 + 1 ≤ R.frames) (h2 : 71 ≤ R.locals) : xw R yX12_areWeights w_X12_areWeights GT cX12_areWeights 6 (some .boolean) rm_X12_areWeights 4 := ⟨rfl, rfl, rfl, h1, h2, ⟨by decide, by decide⟩, by decide +kernel⟩
theorem c_X12_areWeights (E : ET) (hE : EO E) (t : Nat) (ht1 : kd t = 12) (ht2 : AL E t) (x1 : Int32) (x2 : Int32) (x3 : Int32) (x4 : Int32) (σ : HS) (hn : f_X12_areWeights t x1 x2 x3 x4 σ ≠ none) : CoI E yX12_areWeights w_X12_areWeights rm_X12_areWeights [.ref (E.2.2.1 t), .int x1, .int x2, .int x3, .int x4] σ (f_X12_areWeights t x1 x2 x3 x4 σ) := CoI.of (lv := [(0, .ref (E.2.2.1 t)), (1, .int x1), (2, .int x2), (3, .int x3), (4, .int x4)]) hE (plainFor_of_name (by decide)) rfl (Nat.le_of_ble_eq_true rfl) rfl (fun F hC hO hR => k_X12_areWeights_0 hC hO hR hn t ht1 ht2 x1 x2 x3 x4 σ rfl)
def rm_X12_givesWeights : Room := { frames := 0, cells := 0, slots := 0, locals := 0 }
theorem fl_X12_127 : Cond.fieldLink RX12 127 "EveryMeasureModel" (TX12 35).2.1 (TX12 35).2.2.1 ∈ GT := gtr_10 _ (List.mem_of_getElem? (i := 9) rfl)
set_option maxHeartbeats 4000000 in
set_option maxRecDepth 100000 in
theorem k_X12_givesWeights_68 {E : ET} {F : FT} {fo : Option HS} (hC : Cx E F 5 cX12_givesWeights RX12 GT) (hO : Ro F rm_X12_givesWeights) (hR : RV E F fo) (hf : fo ≠ none) (s0 : Int64) (s1 : Int32) (s2 : Nat) (hs2a : kd s2 = 15) (hs2b : AL E s2) (σ : HS) (h : f_X12_givesWeights_68 s0 s1 s2 σ = fo) : G E F 68 [] [.long s0, .int s1, .ref (E.2.2.1 s2)] σ := by
    refine g_last hC hs2a hs2b dX12_givesWeights_68 h hf (fun h => ?_)
    exact g_vret hC hR dX12_givesWeights_69 h
set_option maxHeartbeats 4000000 in
set_option maxRecDepth 100000 in
theorem k_X12_givesWeights_47 {E : ET} {F : FT} {fo : Option HS} (hC : Cx E F 5 cX12_givesWeights RX12 GT) (hO : Ro F rm_X12_givesWeights) (hR : RV E F fo) (hf : fo ≠ none) (t : Nat) (ht1 : kd t = 12) (ht2 : AL E t) (x4 : Int32) (s0 : Int64) (s1 : Int32) (s2 : Nat) (hs2a : kd s2 = 15) (hs2b : AL E s2) (σ : HS) (h : f_X12_givesWeights_47 t x4 s0 s1 s2 σ = fo) : G E F 47 [(0, .ref (E.2.2.1 t)), (4, .int x4)] [.long s0, .int s1, .ref (E.2.2.1 s2)] σ := by
    refine g_last hC hs2a hs2b dX12_givesWeights_47 h hf (fun h => ?_)
    refine g_aload_n hC dX12_givesWeights_48 rfl 0 rfl ?_
    refine g_getR (cj := 15) (k := 35) hC cr12 ui_12 ht1 ht2 (by decide) fl_X12_127 rfl rfl dX12_givesWeights_49 h hf (fun a1 ea1 ka1 na1 h => ?_)
    refine g_iconst (v := 3) hC dX12_givesWeights_52 (by decide) ?_
    refine g_aload_n hC dX12_givesWeights_53 rfl 0 rfl ?_
    refine g_getI (k := 20) hC cr12 ui_12 ht1 ht2 (by decide) fl_X12_193 rfl rfl dX12_givesWeights_54 ?_
    refine g_iconst (v := 4) hC dX12_givesWeights_57 (by decide) ?_
    refine g_icmp_ge (tgt := 65) hC dX12_givesWeights_58 (by decide) h (fun c58 h => ?_) (fun c58 h => ?_)
    · refine g_iload hC dX12_givesWeights_65 1 rfl ?_
      refine g_i2l hC dX12_givesWeights_67 ?_
      exact g_sub [] rfl (k_X12_givesWeights_68 hC hO hR hf x4.toInt64 3 a1 ka1 na1 (sJ σ s2 s1.toNatClampNeg s0) h)
    · refine g_lconst (v := 0) hC dX12_givesWeights_61 (by decide) ?_
      refine g_goto (tgt := 68) hC dX12_givesWeights_62 (by decide) ?_
      exact g_sub [] rfl (k_X12_givesWeights_68 hC hO hR hf 0 3 a1 ka1 na1 (sJ σ s2 s1.toNatClampNeg s0) h)
set_option maxHeartbeats 4000000 in
set_option maxRecDepth 100000 in
theorem k_X12_givesWeights_27 {E : ET} {F : FT} {fo : Option HS} (hC : Cx E F 5 cX12_givesWeights RX12 GT) (hO : Ro F rm_X12_givesWeights) (hR : RV E F fo) (hf : fo ≠ none) (t : Nat) (ht1 : kd t = 12) (ht2 : AL E t) (x3 : Int32) (x4 : Int32) (s0 : Int64) (s1 : Int32) (s2 : Nat) (hs2a : kd s2 = 15) (hs2b : AL E s2) (σ : HS) (h : f_X12_givesWeights_27 t x3 x4 s0 s1 s2 σ = fo) : G E F 27 [(0, .ref (E.2.2.1 t)), (3, .int x3), (4, .int x4)] [.long s0, .int s1, .ref (E.2.2.1 s2)] σ := by
    refine g_last hC hs2a hs2b dX12_givesWeights_27 h hf (fun h => ?_)
    refine g_aload_n hC dX12_givesWeights_28 rfl 0 rfl ?_
    refine g_getR (cj := 15) (k := 35) hC cr12 ui_12 ht1 ht2 (by decide) fl_X12_127 rfl rfl dX12_givesWeights_29 h hf (fun a1 ea1 ka1 na1 h => ?_)
    refine g_iconst (v := 2) hC dX12_givesWeights_32 (by decide) ?_
    refine g_aload_n hC dX12_givesWeights_33 rfl 0 rfl ?_
    refine g_getI (k := 20) hC cr12 ui_12 ht1 ht2 (by decide) fl_X12_193 rfl rfl dX12_givesWeights_34 ?_
    refine g_iconst (v := 3) hC dX12_givesWeights_37 (by decide) ?_
    refine g_icmp_ge (tgt := 45) hC dX12_givesWeights_38 (by decide) h (fun c38 h => ?_) (fun c38 h => ?_)
    · refine g_iload_n hC dX12_givesWeights_45 rfl 1 rfl ?_
      refine g_i2l hC dX12_givesWeights_46 ?_
      exact g_sub [0, 2] rfl (k_X12_givesWeights_47 hC hO hR hf t ht1 ht2 x4 x3.toInt64 2 a1 ka1 na1 (sJ σ s2 s1.toNatClampNeg s0) h)
    · refine g_lconst (v := 0) hC dX12_givesWeights_41 (by decide) ?_
      refine g_goto (tgt := 47) hC dX12_givesWeights_42 (by decide) ?_
      exact g_sub [0, 2] rfl (k_X12_givesWeights_47 hC hO hR hf t ht1 ht2 x4 0 2 a1 ka1 na1 (sJ σ s2 s1.toNatClampNeg s0) h)
set_option maxHeartbeats 4000000 in
set_option maxRecDepth 100000 in
theorem k_X12_givesWeights_0 {E : ET} {F : FT} {fo : Option HS} (hC : Cx E F 5 cX12_givesWeights RX12 GT) (hO : Ro F rm_X12_givesWeights) (hR : RV E F fo) (hf : fo ≠ none) (t : Nat) (ht1 : kd t = 12) (ht2 : AL E t) (x1 : Int32) (x2 : Int32) (x3 : Int32) (x4 : Int32) (σ : HS) (h : f_X12_givesWeights t x1 x2 x3 x4 σ = fo) : G E F 0 [(0, .ref (E.2.2.1 t)), (1, .int x1), (2, .int x2), (3, .int x3), (4, .int x4)] [] σ := by
    refine g_aload_n hC dX12_givesWeights_0 rfl 0 rfl ?_
    refine g_getR (cj := 15) (k := 35) hC cr12 ui_12 ht1 ht2 (by decide) fl_X12_127 rfl rfl dX12_givesWeights_1 h hf (fun a1 ea1 ka1 na1 h => ?_)
    refine g_iconst (v := 0) hC dX12_givesWeights_4 (by decide) ?_
    refine g_iload_n hC dX12_givesWeights_5 rfl 1 rfl ?_
    refine g_i2l hC dX12_givesWeights_6 ?_
    refine g_last hC ka1 na1 dX12_givesWeights_7 h hf (fun h => ?_)
    refine g_aload_n hC dX12_givesWeights_8 rfl 0 rfl ?_
    refine g_getR (cj := 15) (k := 35) hC cr12 ui_12 ht1 ht2 (by decide) fl_X12_127 rfl rfl dX12_givesWeights_9 h hf (fun a2 ea2 ka2 na2 h => ?_)
    refine g_iconst (v := 1) hC dX12_givesWeights_12 (by decide) ?_
    refine g_aload_n hC dX12_givesWeights_13 rfl 0 rfl ?_
    refine g_getI (k := 20) hC cr12 ui_12 ht1 ht2 (by decide) fl_X12_193 rfl rfl dX12_givesWeights_14 ?_
    refine g_iconst (v := 2) hC dX12_givesWeights_17 (by decide) ?_
    refine g_icmp_ge (tgt := 25) hC dX12_givesWeights_18 (by decide) h (fun c18 h => ?_) (fun c18 h => ?_)
    · refine g_iload_n hC dX12_givesWeights_25 rfl 2 rfl ?_
      refine g_i2l hC dX12_givesWeights_26 ?_
      exact g_sub [0, 3, 4] rfl (k_X12_givesWeights_27 hC hO hR hf t ht1 ht2 x3 x4 x2.toInt64 1 a2 ka2 na2 (sJ σ a1 (0 : Int32).toNatClampNeg x1.toInt64) h)
    · refine g_lconst (v := 0) hC dX12_givesWeights_21 (by decide) ?_
      refine g_goto (tgt := 27) hC dX12_givesWeights_22 (by decide) ?_
      exact g_sub [0, 3, 4] rfl (k_X12_givesWeights_27 hC hO hR hf t ht1 ht2 x3 x4 0 1 a2 ka2 na2 (sJ σ a1 (0 : Int32).toNatClampNeg x1.toInt64) h)
theorem xk_X12_givesWeights (R : Room) (h1 : 0 + 1 ≤ R.frames) (h2 : 36 ≤ R.locals) : xw R yX12_givesWeights w_X12_givesWeights GT cX12_givesWeights 5 none rm_X12_givesWeights 4 := ⟨rfl, rfl, rfl, h1, h2, ⟨by decide, by decide⟩, by decide +kernel⟩
theorem c_X12_givesWeights (E : ET) (hE : EO E) (t : Nat) (ht1 : kd t = 12) (ht2 : AL E t) (x1 : Int32) (x2 : Int32) (x3 : Int32) (x4 : Int32) (σ : HS) (hn : f_X12_givesWeights t x1 x2 x3 x4 σ ≠ none) : CoV E yX12_givesWeights w_X12_givesWeights rm_X12_givesWeights [.ref (E.2.2.1 t), .int x1, .int x2, .int x3, .int x4] σ (f_X12_givesWeights t x1 x2 x3 x4 σ) := CoV.of (lv := [(0, .ref (E.2.2.1 t)), (1, .int x1), (2, .int x2), (3, .int x3), (4, .int x4)]) hE (plainFor_of_name (by decide)) rfl (Nat.le_of_ble_eq_true rfl) rfl (fun F hC hO hR => k_X12_givesWeights_0 hC hO hR hn t ht1 ht2 x1 x2 x3 x4 σ rfl)
def rm_X12_goodBy : Room := { frames := 2, cells := 0, slots := 0, locals := 69 }
set_option maxHeartbeats 4000000 in
set_option maxRecDepth 100000 in
theorem k_X12_goodBy_5 {E : ET} {F : FT} {fo : Option (Int64 × HS)} (hC : Cx E F 5 cX12_goodBy RX12 GT) (hO : Ro F rm_X12_goodBy) (hR : RJ E F fo) (hf : fo ≠ none) (t : Nat) (ht1 : kd t = 12) (ht2 : AL E t) (x1 : Int32) : ∀ (n : Nat) (x2 : Int64) (x4 : Int32) (σ : HS), f_X12_goodBy_5 t x1 n x2 x4 σ = fo → G E F 5 [(0, .ref (E.2.2.1 t)), (1, .int x1), (2, .long x2), (4, .int x4)] [] σ := by
  intro n
  induction n with
  | zero =>
    intro x2 x4 σ h
    exact absurd (h.symm.trans rfl) hf
  | succ n ih =>
    intro x2 x4 σ h
    refine g_iload hC dX12_goodBy_5 3 rfl ?_
    refine g_aload_n hC dX12_goodBy_7 rfl 0 rfl ?_
    refine g_getI (k := 20) hC cr12 ui_12 ht1 ht2 (by decide) fl_X12_193 rfl rfl dX12_goodBy_8 ?_
    refine g_icmp_ge (tgt := 39) hC dX12_goodBy_11 (by decide) h (fun c11 h => ?_) (fun c11 h => ?_)
    · refine g_lload_n hC dX12_goodBy_39 rfl 2 rfl ?_
      exact g_lret hC hR dX12_goodBy_40 h
    · refine g_lload_n hC dX12_goodBy_14 rfl 2 rfl ?_
      refine g_aload_n hC dX12_goodBy_15 rfl 0 rfl ?_
      refine g_getR (cj := 15) (k := 35) hC cr12 ui_12 ht1 ht2 (by decide) fl_X12_127 rfl rfl dX12_goodBy_16 h hf (fun a1 ea1 ka1 na1 h => ?_)
      refine g_iload hC dX12_goodBy_19 3 rfl ?_
      refine g_lald hC ka1 na1 dX12_goodBy_21 h hf (fun h => ?_)
      refine g_aload_n hC dX12_goodBy_22 rfl 0 rfl ?_
      refine g_iload_n hC dX12_goodBy_23 rfl 1 rfl ?_
      refine g_iload hC dX12_goodBy_24 3 rfl ?_
      obtain ⟨q2, hq2, h⟩ := bd_of h hf
      refine g_cVI (As := [.int x1, .int x4]) hC hO (c_X12_valueOf _ hC.2.2.2.2.2.2.1 t ht1 ht2 x1 x4 σ (nn_of hq2)) gc_X12_226 (xk_X12_valueOf _ (Nat.le_of_ble_eq_true rfl) (Nat.le_of_ble_eq_true rfl)) cr12 ht1 ht2 rfl (Nat.le_of_ble_eq_true rfl) dX12_goodBy_26 hq2 ?_
      refine g_i2l hC dX12_goodBy_29 ?_
      refine g_lmul hC dX12_goodBy_30 ?_
      refine g_ladd hC dX12_goodBy_31 ?_
      refine g_lstore_n (lv' := [(2, .long (x2 + ((σ.2.1 a1 x4.toNatClampNeg) * q2.1.toInt64))), (0, .ref (E.2.2.1 t)), (1, .int x1), (4, .int x4)]) hC dX12_goodBy_32 rfl (by decide) rfl ?_
      refine g_iinc (v := x4 + 1) (lv' := [(4, .int (x4 + 1)), (2, .long (x2 + ((σ.2.1 a1 x4.toNatClampNeg) * q2.1.toInt64))), (0, .ref (E.2.2.1 t)), (1, .int x1)]) hC dX12_goodBy_33 3 rfl rfl (by decide) rfl ?_
      refine g_goto (tgt := 5) hC dX12_goodBy_36 (by decide) ?_
      exact g_sub [2, 3, 1, 0] rfl (ih (x2 + ((σ.2.1 a1 x4.toNatClampNeg) * q2.1.toInt64)) (x4 + 1) q2.2 h)
set_option maxHeartbeats 4000000 in
set_option maxRecDepth 100000 in
theorem k_X12_goodBy_0 {E : ET} {F : FT} {fo : Option (Int64 × HS)} (hC : Cx E F 5 cX12_goodBy RX12 GT) (hO : Ro F rm_X12_goodBy) (hR : RJ E F fo) (hf : fo ≠ none) (t : Nat) (ht1 : kd t = 12) (ht2 : AL E t) (x1 : Int32) (σ : HS) (h : f_X12_goodBy t x1 σ = fo) : G E F 0 [(0, .ref (E.2.2.1 t)), (1, .int x1)] [] σ := by
    refine g_lconst (v := 0) hC dX12_goodBy_0 (by decide) ?_
    refine g_lstore_n (lv' := [(2, .long 0), (0, .ref (E.2.2.1 t)), (1, .int x1)]) hC dX12_goodBy_1 rfl (by decide) rfl ?_
    refine g_iconst (v := 0) hC dX12_goodBy_2 (by decide) ?_
    refine g_istore (lv' := [(4, .int 0), (2, .long 0), (0, .ref (E.2.2.1 t)), (1, .int x1)]) hC dX12_goodBy_3 (by decide) rfl ?_
    exact g_sub [2, 3, 1, 0] rfl (k_X12_goodBy_5 hC hO hR hf t ht1 ht2 x1 FU 0 0 σ h)
theorem xk_X12_goodBy (R : Room) (h1 : 2 + 1 ≤ R.frames) (h2 : 105 ≤ R.locals) : xw R yX12_goodBy w_X12_goodBy GT cX12_goodBy 5 (some .long) rm_X12_goodBy 1 := ⟨rfl, rfl, rfl, h1, h2, ⟨by decide, by decide⟩, by decide +kernel⟩
theorem c_X12_goodBy (E : ET) (hE : EO E) (t : Nat) (ht1 : kd t = 12) (ht2 : AL E t) (x1 : Int32) (σ : HS) (hn : f_X12_goodBy t x1 σ ≠ none) : CoJ E yX12_goodBy w_X12_goodBy rm_X12_goodBy [.ref (E.2.2.1 t), .int x1] σ (f_X12_goodBy t x1 σ) := CoJ.of (lv := [(0, .ref (E.2.2.1 t)), (1, .int x1)]) hE (plainFor_of_name (by decide)) rfl (Nat.le_of_ble_eq_true rfl) rfl (fun F hC hO hR => k_X12_goodBy_0 hC hO hR hn t ht1 ht2 x1 σ rfl)
def rm_X12_doesFit : Room := { frames := 0, cells := 0, slots := 0, locals := 0 }
set_option maxHeartbeats 4000000 in
set_option maxRecDepth 100000 in
theorem k_X12_doesFit_69 {E : ET} {F : FT} {fo : Option (Int32 × HS)} (hC : Cx E F 6 cX12_doesFit RX12 GT) (hO : Ro F rm_X12_doesFit) (hR : RI E F .boolean fo) (hf : fo ≠ none) (t : Nat) (ht1 : kd t = 12) (ht2 : AL E t) (x2 : Int32) (s0 : Int32) (r4 : Int32 → Int32 → HS → Option (Int32 × HS)) (h4 : ∀ (x1 : Int32) (x2 : Int32) (σ : HS), r4 x1 x2 σ = fo → G E F 4 [(0, .ref (E.2.2.1 t)), (1, .int x1), (2, .int x2)] [] σ) (σ : HS) (h : f_X12_doesFit_69 r4 t x2 s0 σ = fo) : G E F 69 [(0, .ref (E.2.2.1 t)), (2, .int x2)] [.int s0] σ := by
    refine g_istore_n (lv' := [(1, .int s0), (0, .ref (E.2.2.1 t)), (2, .int x2)]) hC dX12_doesFit_69 rfl (by decide) rfl ?_
    refine g_iinc (v := x2 + 1) (lv' := [(2, .int (x2 + 1)), (1, .int s0), (0, .ref (E.2.2.1 t))]) hC dX12_doesFit_70 2 rfl rfl (by decide) rfl ?_
    refine g_goto (tgt := 4) hC dX12_doesFit_73 (by decide) ?_
    exact g_sub [2, 1, 0] rfl (h4 s0 (x2 + 1) σ h)
set_option maxHeartbeats 4000000 in
set_option maxRecDepth 100000 in
theorem k_X12_doesFit_68 {E : ET} {F : FT} {fo : Option (Int32 × HS)} (hC : Cx E F 6 cX12_doesFit RX12 GT) (hO : Ro F rm_X12_doesFit) (hR : RI E F .boolean fo) (hf : fo ≠ none) (t : Nat) (ht1 : kd t = 12) (ht2 : AL E t) (x2 : Int32) (r4 : Int32 → Int32 → HS → Option (Int32 × HS)) (h4 : ∀ (x1 : Int32) (x2 : Int32) (σ : HS), r4 x1 x2 σ = fo → G E F 4 [(0, .ref (E.2.2.1 t)), (1, .int x1), (2, .int x2)] [] σ) (σ : HS) (h : f_X12_doesFit_68 r4 t x2 σ = fo) : G E F 68 [(0, .ref (E.2.2.1 t)), (2, .int x2)] [] σ := by
    refine g_iconst (v := 0) hC dX12_doesFit_68 (by decide) ?_
    exact g_sub [0, 1] rfl (k_X12_doesFit_69 hC hO hR hf t ht1 ht2 x2 0 r4 h4 σ h)
set_option maxHeartbeats 4000000 in
set_option maxRecDepth 100000 in
theorem k_X12_doesFit_17 {E : ET} {F : FT} {fo : Option (Int32 × HS)} (hC : Cx E F 6 cX12_doesFit RX12 GT) (hO : Ro F rm_X12_doesFit) (hR : RI E F .boolean fo) (hf : fo ≠ none) (t : Nat) (ht1 : kd t = 12) (ht2 : AL E t) (x1 : Int32) (x2 : Int32) (r4 : Int32 → Int32 → HS → Option (Int32 × HS)) (h4 : ∀ (x1 : Int32) (x2 : Int32) (σ : HS), r4 x1 x2 σ = fo → G E F 4 [(0, .ref (E.2.2.1 t)), (1, .int x1), (2, .int x2)] [] σ) : ∀ (n : Nat) (x3 : Int64) (x5 : Int32) (σ : HS), f_X12_doesFit_17 t x1 x2 r4 n x3 x5 σ = fo → G E F 17 [(0, .ref (E.2.2.1 t)), (1, .int x1), (2, .int x2), (3, .long x3), (5, .int x5)] [] σ := by
  intro n
  induction n with
  | zero =>
    intro x3 x5 σ h
    exact absurd (h.symm.trans rfl) hf
  | succ n ih =>
    intro x3 x5 σ h
    refine g_iload hC dX12_doesFit_17 4 rfl ?_
    refine g_aload_n hC dX12_doesFit_19 rfl 0 rfl ?_
    refine g_getI (k := 20) hC cr12 ui_12 ht1 ht2 (by decide) fl_X12_193 rfl rfl dX12_doesFit_20 ?_
    refine g_icmp_ge (tgt := 54) hC dX12_doesFit_23 (by decide) h (fun c23 h => ?_) (fun c23 h => ?_)
    · refine g_iload_n hC dX12_doesFit_54 rfl 1 rfl ?_
      refine g_if_eq (tgt := 68) hC dX12_doesFit_55 (by decide) h (fun c55 h => ?_) (fun c55 h => ?_)
      · exact g_sub [0, 2] rfl (k_X12_doesFit_68 hC hO hR hf t ht1 ht2 x2 r4 h4 σ h)
      · refine g_lload_n hC dX12_doesFit_58 rfl 3 rfl ?_
        refine g_lconst (v := 0) hC dX12_doesFit_59 (by decide) ?_
        refine g_lc_lt (tgt := 68) hC dX12_doesFit_60 dX12_doesFit_61 (by decide) h (fun c60 h => ?_) (fun c60 h => ?_)
        · exact g_sub [0, 2] rfl (k_X12_doesFit_68 hC hO hR hf t ht1 ht2 x2 r4 h4 σ h)
        · refine g_iconst (v := 1) hC dX12_doesFit_64 (by decide) ?_
          refine g_goto (tgt := 69) hC dX12_doesFit_65 (by decide) ?_
          exact g_sub [0, 2] rfl (k_X12_doesFit_69 hC hO hR hf t ht1 ht2 x2 1 r4 h4 σ h)
    · refine g_lload_n hC dX12_doesFit_26 rfl 3 rfl ?_
      refine g_aload_n hC dX12_doesFit_27 rfl 0 rfl ?_
      refine g_getR (cj := 15) (k := 27) hC cr12 ui_12 ht1 ht2 (by decide) fl_X12_109 rfl rfl dX12_doesFit_28 h hf (fun a1 ea1 ka1 na1 h => ?_)
      refine g_iconst (v := 4) hC dX12_doesFit_31 (by decide) ?_
      refine g_iload_n hC dX12_doesFit_32 rfl 2 rfl ?_
      refine g_imul hC dX12_doesFit_33 ?_
      refine g_iload hC dX12_doesFit_34 4 rfl ?_
      refine g_iadd hC dX12_doesFit_36 ?_
      refine g_lald hC ka1 na1 dX12_doesFit_37 h hf (fun h => ?_)
      refine g_aload_n hC dX12_doesFit_38 rfl 0 rfl ?_
      refine g_getR (cj := 15) (k := 35) hC cr12 ui_12 ht1 ht2 (by decide) fl_X12_127 rfl rfl dX12_doesFit_39 h hf (fun a2 ea2 ka2 na2 h => ?_)
      refine g_iload hC dX12_doesFit_42 4 rfl ?_
      refine g_lald hC ka2 na2 dX12_doesFit_44 h hf (fun h => ?_)
      refine g_lmul hC dX12_doesFit_45 ?_
      refine g_ladd hC dX12_doesFit_46 ?_
      refine g_lstore_n (lv' := [(3, .long (x3 + ((σ.2.1 a1 (((4 : Int32) * x2) + x5).toNatClampNeg) * (σ.2.1 a2 x5.toNatClampNeg)))), (0, .ref (E.2.2.1 t)), (1, .int x1), (2, .int x2), (5, .int x5)]) hC dX12_doesFit_47 rfl (by decide) rfl ?_
      refine g_iinc (v := x5 + 1) (lv' := [(5, .int (x5 + 1)), (3, .long (x3 + ((σ.2.1 a1 (((4 : Int32) * x2) + x5).toNatClampNeg) * (σ.2.1 a2 x5.toNatClampNeg)))), (0, .ref (E.2.2.1 t)), (1, .int x1), (2, .int x2)]) hC dX12_doesFit_48 4 rfl rfl (by decide) rfl ?_
      refine g_goto (tgt := 17) hC dX12_doesFit_51 (by decide) ?_
      exact g_sub [2, 3, 4, 1, 0] rfl (ih (x3 + ((σ.2.1 a1 (((4 : Int32) * x2) + x5).toNatClampNeg) * (σ.2.1 a2 x5.toNatClampNeg))) (x5 + 1) σ h)
set_option maxHeartbeats 4000000 in
set_option maxRecDepth 100000 in
theorem k_X12_doesFit_4 {E : ET} {F : FT} {fo : Option (Int32 × HS)} (hC : Cx E F 6 cX12_doesFit RX12 GT) (hO : Ro F rm_X12_doesFit) (hR : RI E F .boolean fo) (hf : fo ≠ none) (t : Nat) (ht1 : kd t = 12) (ht2 : AL E t) : ∀ (n : Nat) (x1 : Int32) (x2 : Int32) (σ : HS), f_X12_doesFit_4 t n x1 x2 σ = fo → G E F 4 [(0, .ref (E.2.2.1 t)), (1, .int x1), (2, .int x2)] [] σ := by
  intro n
  induction n with
  | zero =>
    intro x1 x2 σ h
    exact absurd (h.symm.trans rfl) hf
  | succ n ih =>
    intro x1 x2 σ h
    refine g_iload_n hC dX12_doesFit_4 rfl 2 rfl ?_
    refine g_aload_n hC dX12_doesFit_5 rfl 0 rfl ?_
    refine g_getI (k := 26) hC cr12 ui_12 ht1 ht2 (by decide) fl_X12_229 rfl rfl dX12_doesFit_6 ?_
    refine g_icmp_ge (tgt := 76) hC dX12_doesFit_9 (by decide) h (fun c9 h => ?_) (fun c9 h => ?_)
    · refine g_iload_n hC dX12_doesFit_76 rfl 1 rfl ?_
      obtain ⟨hz, h⟩ := zr_of h hf
      exact g_iret hC hR dX12_doesFit_77 hz h
    · refine g_lconst (v := 0) hC dX12_doesFit_12 (by decide) ?_
      refine g_lstore_n (lv' := [(3, .long 0), (0, .ref (E.2.2.1 t)), (1, .int x1), (2, .int x2)]) hC dX12_doesFit_13 rfl (by decide) rfl ?_
      refine g_iconst (v := 0) hC dX12_doesFit_14 (by decide) ?_
      refine g_istore (lv' := [(5, .int 0), (3, .long 0), (0, .ref (E.2.2.1 t)), (1, .int x1), (2, .int x2)]) hC dX12_doesFit_15 (by decide) rfl ?_
      exact g_sub [2, 3, 4, 1, 0] rfl (k_X12_doesFit_17 hC hO hR hf t ht1 ht2 x1 x2 (f_X12_doesFit_4 t n) ih FU 0 0 σ h)
set_option maxHeartbeats 4000000 in
set_option maxRecDepth 100000 in
theorem k_X12_doesFit_0 {E : ET} {F : FT} {fo : Option (Int32 × HS)} (hC : Cx E F 6 cX12_doesFit RX12 GT) (hO : Ro F rm_X12_doesFit) (hR : RI E F .boolean fo) (hf : fo ≠ none) (t : Nat) (ht1 : kd t = 12) (ht2 : AL E t) (σ : HS) (h : f_X12_doesFit t σ = fo) : G E F 0 [(0, .ref (E.2.2.1 t))] [] σ := by
    refine g_iconst (v := 1) hC dX12_doesFit_0 (by decide) ?_
    refine g_istore_n (lv' := [(1, .int 1), (0, .ref (E.2.2.1 t))]) hC dX12_doesFit_1 rfl (by decide) rfl ?_
    refine g_iconst (v := 0) hC dX12_doesFit_2 (by decide) ?_
    refine g_istore_n (lv' := [(2, .int 0), (1, .int 1), (0, .ref (E.2.2.1 t))]) hC dX12_doesFit_3 rfl (by decide) rfl ?_
    exact g_sub [2, 1, 0] rfl (k_X12_doesFit_4 hC hO hR hf t ht1 ht2 FU 1 0 σ h)
theorem xk_X12_doesFit (R : Room) (h1 : 0 + 1 ≤ R.frames) (h2 : 37 ≤ R.locals) : xw R yX12_doesFit w_X12_doesFit GT cX12_doesFit 6 (some .boolean) rm_X12_doesFit 0 := ⟨rfl, rfl, rfl, h1, h2, ⟨by decide, by decide⟩, by decide +kernel⟩
theorem c_X12_doesFit (E : ET) (hE : EO E) (t : Nat) (ht1 : kd t = 12) (ht2 : AL E t) (σ : HS) (hn : f_X12_doesFit t σ ≠ none) : CoI E yX12_doesFit w_X12_doesFit rm_X12_doesFit [.ref (E.2.2.1 t)] σ (f_X12_doesFit t σ) := CoI.of (lv := [(0, .ref (E.2.2.1 t))]) hE (plainFor_of_name (by decide)) rfl (Nat.le_of_ble_eq_true rfl) rfl (fun F hC hO hR => k_X12_doesFit_0 hC hO hR hn t ht1 ht2 σ rfl)
def rm_X12_good : Room := { frames := 3, cells := 0, slots := 0, locals := 105 }
theorem wc_X12_areWeights : Cond.code yX12_areWeights cX12_areWeights 6 (some .boolean) ∈ GT := gtr_29 _ (List.mem_of_getElem? (i := 16) rfl)
theorem gc_X12_345 : GoodIn GT (wsV RX12 345 RX12 yX12_areWeights w_X12_areWeights) := gi_V (gtr_29 _ (List.mem_of_getElem? (i := 13) rfl)) (gtr_29 _ (List.mem_of_getElem? (i := 14) rfl)) (gtr_29 _ (List.mem_of_getElem? (i := 15) rfl)) (gtr_1 _ (List.mem_of_getElem? (i := 5) rfl)) wc_X12_areWeights
theorem wc_X12_givesWeights : Cond.code yX12_givesWeights cX12_givesWeights 5 none ∈ GT := gtr_29 _ (List.mem_of_getElem? (i := 20) rfl)
theorem gc_X12_349 : GoodIn GT (wsV RX12 349 RX12 yX12_givesWeights w_X12_givesWeights) := gi_V (gtr_29 _ (List.mem_of_getElem? (i := 17) rfl)) (gtr_29 _ (List.mem_of_getElem? (i := 18) rfl)) (gtr_29 _ (List.mem_of_getElem? (i := 19) rfl)) (gtr_1 _ (List.mem_of_getElem? (i := 5) rfl)) wc_X12_givesWeights
theorem wc_X12_goodBy : Cond.code yX12_goodBy cX12_goodBy 5 (some .long) ∈ GT := gtr_30 _ (List.mem_of_getElem? (i := 0) rfl)
theorem gc_X12_353 : GoodIn GT (wsV RX12 353 RX12 yX12_goodBy w_X12_goodBy) := gi_V (gtr_29 _ (List.mem_of_getElem? (i := 21) rfl)) (gtr_29 _ (List.mem_of_getElem? (i := 22) rfl)) (gtr_29 _ (List.mem_of_getElem? (i := 23) rfl)) (gtr_1 _ (List.mem_of_getElem? (i := 5) rfl)) wc_X12_goodBy
set_option maxHeartbeats 4000000 in
set_option maxRecDepth 100000 in
theorem k_X12_good_36 {E : ET} {F : FT} {fo : Option (Int32 × HS)} (hC : Cx E F 13 cX12_good RX12 GT) (hO : Ro F rm_X12_good) (hR : RI E F .int fo) (hf : fo ≠ none) (σ : HS) (h : f_X12_good_36 σ = fo) : G E F 36 [] [] σ := by
    refine g_iconst (v := (-1)) hC dX12_good_36 (by decide) ?_
    exact g_iret hC hR dX12_good_37 rfl h
set_option maxHeartbeats 4000000 in
set_option maxRecDepth 100000 in
theorem k_X12_good_111 {E : ET} {F : FT} {fo : Option (Int32 × HS)} (hC : Cx E F 13 cX12_good RX12 GT) (hO : Ro F rm_X12_good) (hR : RI E F .int fo) (hf : fo ≠ none) (s0 : Int64) (σ : HS) (h : f_X12_good_111 s0 σ = fo) : G E F 111 [] [.long s0] σ := by
    refine g_l2i hC dX12_good_111 ?_
    exact g_iret hC hR dX12_good_112 rfl h
set_option maxHeartbeats 4000000 in
set_option maxRecDepth 100000 in
theorem k_X12_good_0 {E : ET} {F : FT} {fo : Option (Int32 × HS)} (hC : Cx E F 13 cX12_good RX12 GT) (hO : Ro F rm_X12_good) (hR : RI E F .int fo) (hf : fo ≠ none) (t : Nat) (ht1 : kd t = 12) (ht2 : AL E t) (x1 : Int32) (x2 : Int32) (x3 : Int32) (x4 : Int32) (x5 : Int32) (x6 : Int32) (σ : HS) (h : f_X12_good t x1 x2 x3 x4 x5 x6 σ = fo) : G E F 0 [(0, .ref (E.2.2.1 t)), (1, .int x1), (2, .int x2), (3, .int x3), (4, .int x4), (5, .int x5), (6, .int x6)] [] σ := by
    refine g_aload_n hC dX12_good_0 rfl 0 rfl ?_
    refine g_iconst (v := 0) hC dX12_good_1 (by decide) ?_
    refine g_putI (k := 0) hC cr12 ui_12 tyX12_ok nmX12 ht1 ht2 (by decide) fl_X12_1 rfl rfl rfl rfl dX12_good_2 ?_
    refine g_aload_n hC dX12_good_5 rfl 0 rfl ?_
    refine g_iload_n hC dX12_good_6 rfl 1 rfl ?_
    obtain ⟨q1, hq1, h⟩ := bd_of h hf
    refine g_cVI (As := [.int x1]) hC hO (c_X12_isThing _ hC.2.2.2.2.2.2.1 t ht1 ht2 x1 (sI σ t 0 0) (nn_of hq1)) gc_X12_217 (xk_X12_isThing _ (Nat.le_of_ble_eq_true rfl) (Nat.le_of_ble_eq_true rfl)) cr12 ht1 ht2 rfl (Nat.le_of_ble_eq_true rfl) dX12_good_7 hq1 ?_
    refine g_if_eq (tgt := 36) hC dX12_good_10 (by decide) h (fun c10 h => ?_) (fun c10 h => ?_)
    · exact g_sub [] rfl (k_X12_good_36 hC hO hR hf q1.2 h)
    · refine g_aload_n hC dX12_good_13 rfl 0 rfl ?_
      refine g_iload_n hC dX12_good_14 rfl 2 rfl ?_
      refine g_iload_n hC dX12_good_15 rfl 3 rfl ?_
      refine g_iload hC dX12_good_16 4 rfl ?_
      refine g_iload hC dX12_good_18 5 rfl ?_
      obtain ⟨q2, hq2, h⟩ := bd_of h hf
      refine g_cVI (As := [.int x2, .int x3, .int x4, .int x5]) hC hO (c_X12_areWeights _ hC.2.2.2.2.2.2.1 t ht1 ht2 x2 x3 x4 x5 q1.2 (nn_of hq2)) gc_X12_345 (xk_X12_areWeights _ (Nat.le_of_ble_eq_true rfl) (Nat.le_of_ble_eq_true rfl)) cr12 ht1 ht2 rfl (Nat.le_of_ble_eq_true rfl) dX12_good_20 hq2 ?_
      refine g_if_eq (tgt := 36) hC dX12_good_23 (by decide) h (fun c23 h => ?_) (fun c23 h => ?_)
      · exact g_sub [] rfl (k_X12_good_36 hC hO hR hf q2.2 h)
      · refine g_iload hC dX12_good_26 6 rfl ?_
        refine g_iconst (v := 0) hC dX12_good_28 (by decide) ?_
        refine g_iconst (v := 1) hC dX12_good_29 (by decide) ?_
        obtain ⟨q3, hq3, h⟩ := bd_of h hf
        refine g_cSI (As := [.int x6, .int 0, .int 1]) hC hO (c_X12_within _ hC.2.2.2.2.2.2.1 x6 0 1 q2.2 (nn_of hq3)) gc_X12_213 (xk_X12_within _ (Nat.le_of_ble_eq_true rfl) (Nat.le_of_ble_eq_true rfl)) rfl (Nat.le_of_ble_eq_true rfl) dX12_good_30 hq3 ?_
        refine g_if_ne (tgt := 38) hC dX12_good_33 (by decide) h (fun c33 h => ?_) (fun c33 h => ?_)
        · refine g_aload_n hC dX12_good_38 rfl 0 rfl ?_
          refine g_iload_n hC dX12_good_39 rfl 2 rfl ?_
          refine g_iload_n hC dX12_good_40 rfl 3 rfl ?_
          refine g_iload hC dX12_good_41 4 rfl ?_
          refine g_iload hC dX12_good_43 5 rfl ?_
          obtain ⟨q4, hq4, h⟩ := bd_of h hf
          refine g_cVV (As := [.int x2, .int x3, .int x4, .int x5]) hC hO (c_X12_givesWeights _ hC.2.2.2.2.2.2.1 t ht1 ht2 x2 x3 x4 x5 q3.2 (nn_of hq4)) gc_X12_349 (xk_X12_givesWeights _ (Nat.le_of_ble_eq_true rfl) (Nat.le_of_ble_eq_true rfl)) cr12 ht1 ht2 rfl (Nat.le_of_ble_eq_true rfl) dX12_good_45 hq4 ?_
          refine g_aload_n hC dX12_good_48 rfl 0 rfl ?_
          refine g_iload_n hC dX12_good_49 rfl 1 rfl ?_
          obtain ⟨q5, hq5, h⟩ := bd_of h hf
          refine g_cVJ (As := [.int x1]) hC hO (c_X12_goodBy _ hC.2.2.2.2.2.2.1 t ht1 ht2 x1 q4 (nn_of hq5)) gc_X12_353 (xk_X12_goodBy _ (Nat.le_of_ble_eq_true rfl) (Nat.le_of_ble_eq_true rfl)) cr12 ht1 ht2 rfl (Nat.le_of_ble_eq_true rfl) dX12_good_50 hq5 ?_
          refine g_lstore (lv' := [(7, .long q5.1), (0, .ref (E.2.2.1 t)), (1, .int x1), (2, .int x2), (3, .int x3), (4, .int x4), (5, .int x5), (6, .int x6)]) hC dX12_good_53 (by decide) rfl ?_
          refine g_aload_n hC dX12_good_55 rfl 1 rfl ?_
          refine g_getR (cj := 15) (k := 35) hC cr12 ui_12 ht1 ht2 (by decide) fl_X12_127 rfl rfl dX12_good_56 h hf (fun a6 ea6 ka6 na6 h => ?_)
          refine g_iconst (v := 0) hC dX12_good_59 (by decide) ?_
          refine g_lald hC ka6 na6 dX12_good_60 h hf (fun h => ?_)
          refine g_aload_n hC dX12_good_61 rfl 1 rfl ?_
          refine g_getR (cj := 15) (k := 35) hC cr12 ui_12 ht1 ht2 (by decide) fl_X12_127 rfl rfl dX12_good_62 h hf (fun a7 ea7 ka7 na7 h => ?_)
          refine g_iconst (v := 1) hC dX12_good_65 (by decide) ?_
          refine g_lald hC ka7 na7 dX12_good_66 h hf (fun h => ?_)
          refine g_ladd hC dX12_good_67 ?_
          refine g_aload_n hC dX12_good_68 rfl 1 rfl ?_
          refine g_getR (cj := 15) (k := 35) hC cr12 ui_12 ht1 ht2 (by decide) fl_X12_127 rfl rfl dX12_good_69 h hf (fun a8 ea8 ka8 na8 h => ?_)
          refine g_iconst (v := 2) hC dX12_good_72 (by decide) ?_
          refine g_lald hC ka8 na8 dX12_good_73 h hf (fun h => ?_)
          refine g_ladd hC dX12_good_74 ?_
          refine g_aload_n hC dX12_good_75 rfl 1 rfl ?_
          refine g_getR (cj := 15) (k := 35) hC cr12 ui_12 ht1 ht2 (by decide) fl_X12_127 rfl rfl dX12_good_76 h hf (fun a9 ea9 ka9 na9 h => ?_)
          refine g_iconst (v := 3) hC dX12_good_79 (by decide) ?_
          refine g_lald hC ka9 na9 dX12_good_80 h hf (fun h => ?_)
          refine g_ladd hC dX12_good_81 ?_
          refine g_lstore (lv' := [(9, .long ((((q5.2.2.1 a6 (0 : Int32).toNatClampNeg) + (q5.2.2.1 a7 (1 : Int32).toNatClampNeg)) + (q5.2.2.1 a8 (2 : Int32).toNatClampNeg)) + (q5.2.2.1 a9 (3 : Int32).toNatClampNeg))), (7, .long q5.1), (0, .ref (E.2.2.1 t)), (1, .int x1), (2, .int x2), (3, .int x3), (4, .int x4), (5, .int x5), (6, .int x6)]) hC dX12_good_82 (by decide) rfl ?_
          refine g_lload hC dX12_good_84 1 rfl ?_
          refine g_lload hC dX12_good_86 0 rfl ?_
          obtain ⟨q10, hq10, h⟩ := bd_of h hf
          refine g_cSJ (As := [.long q5.1, .long ((((q5.2.2.1 a6 (0 : Int32).toNatClampNeg) + (q5.2.2.1 a7 (1 : Int32).toNatClampNeg)) + (q5.2.2.1 a8 (2 : Int32).toNatClampNeg)) + (q5.2.2.1 a9 (3 : Int32).toNatClampNeg))]) hC hO (c_X12_common _ hC.2.2.2.2.2.2.1 q5.1 ((((q5.2.2.1 a6 (0 : Int32).toNatClampNeg) + (q5.2.2.1 a7 (1 : Int32).toNatClampNeg)) + (q5.2.2.1 a8 (2 : Int32).toNatClampNeg)) + (q5.2.2.1 a9 (3 : Int32).toNatClampNeg)) q5.2 (nn_of hq10)) gc_X12_281 (xk_X12_common _ (Nat.le_of_ble_eq_true rfl) (Nat.le_of_ble_eq_true rfl)) rfl (Nat.le_of_ble_eq_true rfl) dX12_good_88 hq10 ?_
          refine g_lstore (lv' := [(11, .long q10.1), (9, .long ((((q5.2.2.1 a6 (0 : Int32).toNatClampNeg) + (q5.2.2.1 a7 (1 : Int32).toNatClampNeg)) + (q5.2.2.1 a8 (2 : Int32).toNatClampNeg)) + (q5.2.2.1 a9 (3 : Int32).toNatClampNeg))), (7, .long q5.1), (0, .ref (E.2.2.1 t)), (1, .int x1), (2, .int x2), (3, .int x3), (4, .int x4), (5, .int x5), (6, .int x6)]) hC dX12_good_91 (by decide) rfl ?_
          refine g_iload hC dX12_good_93 9 rfl ?_
          refine g_if_ne (tgt := 106) hC dX12_good_95 (by decide) h (fun c95 h => ?_) (fun c95 h => ?_)
          · refine g_lload hC dX12_good_106 1 rfl ?_
            refine g_lload hC dX12_good_108 0 rfl ?_
            obtain ⟨hz110, h⟩ := nz_of h hf
            refine g_ldiv hC dX12_good_110 hz110 ?_
            exact g_sub [] rfl (k_X12_good_111 hC hO hR hf (((((q5.2.2.1 a6 (0 : Int32).toNatClampNeg) + (q5.2.2.1 a7 (1 : Int32).toNatClampNeg)) + (q5.2.2.1 a8 (2 : Int32).toNatClampNeg)) + (q5.2.2.1 a9 (3 : Int32).toNatClampNeg)) / q10.1) q10.2 h)
          · refine g_lload hC dX12_good_98 2 rfl ?_
            refine g_lload hC dX12_good_100 0 rfl ?_
            obtain ⟨hz102, h⟩ := nz_of h hf
            refine g_ldiv hC dX12_good_102 hz102 ?_
            refine g_goto (tgt := 111) hC dX12_good_103 (by decide) ?_
            exact g_sub [] rfl (k_X12_good_111 hC hO hR hf (q5.1 / q10.1) q10.2 h)
        · exact g_sub [] rfl (k_X12_good_36 hC hO hR hf q3.2 h)
theorem xk_X12_good (R : Room) (h1 : 3 + 1 ≤ R.frames) (h2 : 149 ≤ R.locals) : xw R yX12_good w_X12_good GT cX12_good 13 (some .int) rm_X12_good 6 := ⟨rfl, rfl, rfl, h1, h2, ⟨by decide, by decide⟩, by decide +kernel⟩
theorem c_X12_good (E : ET) (hE : EO E) (t : Nat) (ht1 : kd t = 12) (ht2 : AL E t) (x1 : Int32) (x2 : Int32) (x3 : Int32) (x4 : Int32) (x5 : Int32) (x6 : Int32) (σ : HS) (hn : f_X12_good t x1 x2 x3 x4 x5 x6 σ ≠ none) : CoI E yX12_good w_X12_good rm_X12_good [.ref (E.2.2.1 t), .int x1, .int x2, .int x3, .int x4, .int x5, .int x6] σ (f_X12_good t x1 x2 x3 x4 x5 x6 σ) := CoI.of (lv := [(0, .ref (E.2.2.1 t)), (1, .int x1), (2, .int x2), (3, .int x3), (4, .int x4), (5, .int x5), (6, .int x6)]) hE (plainFor_of_name (by decide)) rfl (Nat.le_of_ble_eq_true rfl) rfl (fun F hC hO hR => k_X12_good_0 hC hO hR hn t ht1 ht2 x1 x2 x3 x4 x5 x6 σ rfl)
def rm_X12_fits : Room := { frames := 6, cells := 0, slots := 0, locals := 207 }
theorem wc_X12_doesFit : Cond.code yX12_doesFit cX12_doesFit 6 (some .boolean) ∈ GT := gtr_32 _ (List.mem_of_getElem? (i := 19) rfl)
theorem gc_X12_357 : GoodIn GT (wsV RX12 357 RX12 yX12_doesFit w_X12_doesFit) := gi_V (gtr_32 _ (List.mem_of_getElem? (i := 16) rfl)) (gtr_32 _ (List.mem_of_getElem? (i := 17) rfl)) (gtr_32 _ (List.mem_of_getElem? (i := 18) rfl)) (gtr_1 _ (List.mem_of_getElem? (i := 5) rfl)) wc_X12_doesFit
set_option maxHeartbeats 4000000 in
set_option maxRecDepth 100000 in
theorem k_X12_fits_48 {E : ET} {F : FT} {fo : Option (Int32 × HS)} (hC : Cx E F 5 cX12_fits RX12 GT) (hO : Ro F rm_X12_fits) (hR : RI E F .int fo) (hf : fo ≠ none) (s0 : Int32) (σ : HS) (h : f_X12_fits_48 s0 σ = fo) : G E F 48 [] [.int s0] σ := by
    exact g_iret hC hR dX12_fits_48 rfl h
set_option maxHeartbeats 4000000 in
set_option maxRecDepth 100000 in
theorem k_X12_fits_0 {E : ET} {F : FT} {fo : Option (Int32 × HS)} (hC : Cx E F 5 cX12_fits RX12 GT) (hO : Ro F rm_X12_fits) (hR : RI E F .int fo) (hf : fo ≠ none) (t : Nat) (ht1 : kd t = 12) (ht2 : AL E t) (x1 : Int32) (x2 : Int32) (x3 : Int32) (x4 : Int32) (σ : HS) (h : f_X12_fits t x1 x2 x3 x4 σ = fo) : G E F 0 [(0, .ref (E.2.2.1 t)), (1, .int x1), (2, .int x2), (3, .int x3), (4, .int x4)] [] σ := by
    refine g_aload_n hC dX12_fits_0 rfl 0 rfl ?_
    refine g_iconst (v := 0) hC dX12_fits_1 (by decide) ?_
    refine g_putI (k := 0) hC cr12 ui_12 tyX12_ok nmX12 ht1 ht2 (by decide) fl_X12_1 rfl rfl rfl rfl dX12_fits_2 ?_
    refine g_aload_n hC dX12_fits_5 rfl 0 rfl ?_
    refine g_iload_n hC dX12_fits_6 rfl 1 rfl ?_
    refine g_iload_n hC dX12_fits_7 rfl 2 rfl ?_
    refine g_iload_n hC dX12_fits_8 rfl 3 rfl ?_
    refine g_iload hC dX12_fits_9 4 rfl ?_
    obtain ⟨q1, hq1, h⟩ := bd_of h hf
    refine g_cVI (As := [.int x1, .int x2, .int x3, .int x4]) hC hO (c_X12_areWeights _ hC.2.2.2.2.2.2.1 t ht1 ht2 x1 x2 x3 x4 (sI σ t 0 0) (nn_of hq1)) gc_X12_345 (xk_X12_areWeights _ (Nat.le_of_ble_eq_true rfl) (Nat.le_of_ble_eq_true rfl)) cr12 ht1 ht2 rfl (Nat.le_of_ble_eq_true rfl) dX12_fits_11 hq1 ?_
    refine g_if_ne (tgt := 19) hC dX12_fits_14 (by decide) h (fun c14 h => ?_) (fun c14 h => ?_)
    · refine g_aload_n hC dX12_fits_19 rfl 0 rfl ?_
      refine g_aload_n hC dX12_fits_20 rfl 0 rfl ?_
      obtain ⟨q2, hq2, h⟩ := bd_of h hf
      refine g_cVI (As := []) hC hO (c_X12_heard _ hC.2.2.2.2.2.2.1 t ht1 ht2 q1.2 (nn_of hq2)) gc_X12_295 (xk_X12_heard _ (Nat.le_of_ble_eq_true rfl) (Nat.le_of_ble_eq_true rfl)) cr12 ht1 ht2 rfl (Nat.le_of_ble_eq_true rfl) dX12_fits_21 hq2 ?_
      obtain ⟨q3, hq3, h⟩ := bd_of h hf
      refine g_cVV (As := [.int q2.1]) hC hO (c_X12_laysRows _ hC.2.2.2.2.2.2.1 t ht1 ht2 q2.1 q2.2 (nn_of hq3)) gc_X12_298 (xk_X12_laysRows _ (Nat.le_of_ble_eq_true rfl) (Nat.le_of_ble_eq_true rfl)) cr12 ht1 ht2 rfl (Nat.le_of_ble_eq_true rfl) dX12_fits_24 hq3 ?_
      refine g_aload_n hC dX12_fits_27 rfl 0 rfl ?_
      refine g_iload_n hC dX12_fits_28 rfl 1 rfl ?_
      refine g_iload_n hC dX12_fits_29 rfl 2 rfl ?_
      refine g_iload_n hC dX12_fits_30 rfl 3 rfl ?_
      refine g_iload hC dX12_fits_31 4 rfl ?_
      obtain ⟨q4, hq4, h⟩ := bd_of h hf
      refine g_cVV (As := [.int x1, .int x2, .int x3, .int x4]) hC hO (c_X12_givesWeights _ hC.2.2.2.2.2.2.1 t ht1 ht2 x1 x2 x3 x4 q3 (nn_of hq4)) gc_X12_349 (xk_X12_givesWeights _ (Nat.le_of_ble_eq_true rfl) (Nat.le_of_ble_eq_true rfl)) cr12 ht1 ht2 rfl (Nat.le_of_ble_eq_true rfl) dX12_fits_33 hq4 ?_
      refine g_aload_n hC dX12_fits_36 rfl 0 rfl ?_
      obtain ⟨q5, hq5, h⟩ := bd_of h hf
      refine g_cVI (As := []) hC hO (c_X12_doesFit _ hC.2.2.2.2.2.2.1 t ht1 ht2 q4 (nn_of hq5)) gc_X12_357 (xk_X12_doesFit _ (Nat.le_of_ble_eq_true rfl) (Nat.le_of_ble_eq_true rfl)) cr12 ht1 ht2 rfl (Nat.le_of_ble_eq_true rfl) dX12_fits_37 hq5 ?_
      refine g_if_eq (tgt := 47) hC dX12_fits_40 (by decide) h (fun c40 h => ?_) (fun c40 h => ?_)
      · refine g_iconst (v := 0) hC dX12_fits_47 (by decide) ?_
        exact g_sub [] rfl (k_X12_fits_48 hC hO hR hf 0 q5.2 h)
      · refine g_iconst (v := 1) hC dX12_fits_43 (by decide) ?_
        refine g_goto (tgt := 48) hC dX12_fits_44 (by decide) ?_
        exact g_sub [] rfl (k_X12_fits_48 hC hO hR hf 1 q5.2 h)
    · refine g_iconst (v := (-1)) hC dX12_fits_17 (by decide) ?_
      exact g_iret hC hR dX12_fits_18 rfl h
theorem xk_X12_fits (R : Room) (h1 : 6 + 1 ≤ R.frames) (h2 : 243 ≤ R.locals) : xw R yX12_fits w_X12_fits GT cX12_fits 5 (some .int) rm_X12_fits 4 := ⟨rfl, rfl, rfl, h1, h2, ⟨by decide, by decide⟩, by decide +kernel⟩
theorem c_X12_fits (E : ET) (hE : EO E) (t : Nat) (ht1 : kd t = 12) (ht2 : AL E t) (x1 : Int32) (x2 : Int32) (x3 : Int32) (x4 : Int32) (σ : HS) (hn : f_X12_fits t x1 x2 x3 x4 σ ≠ none) : CoI E yX12_fits w_X12_fits rm_X12_fits [.ref (E.2.2.1 t), .int x1, .int x2, .int x3, .int x4] σ (f_X12_fits t x1 x2 x3 x4 σ) := CoI.of (lv := [(0, .ref (E.2.2.1 t)), (1, .int x1), (2, .int x2), (3, .int x3), (4, .int x4)]) hE (plainFor_of_name (by decide)) rfl (Nat.le_of_ble_eq_true rfl) rfl (fun F hC hO hR => k_X12_fits_0 hC hO hR hn t ht1 ht2 x1 x2 x3 x4 σ rfl)
def rm_X12_isAhead : Room := { frames := 1, cells := 0, slots := 0, locals := 35 }
set_option maxHeartbeats 4000000 in
set_option maxRecDepth 100000 in
theorem k_X12_isAhead_51 {E : ET} {F : FT} {fo : Option (Int32 × HS)} (hC : Cx E F 4 cX12_isAhead RX12 GT) (hO : Ro F rm_X12_isAhead) (hR : RI E F .boolean fo) (hf : fo ≠ none) (s0 : Int32) (σ : HS) (h : f_X12_isAhead_51 s0 σ = fo) : G E F 51 [] [.int s0] σ := by
    obtain ⟨hz, h⟩ := zr_of h hf
    exact g_iret hC hR dX12_isAhead_51 hz h
set_option maxHeartbeats 4000000 in
set_option maxRecDepth 100000 in
theorem k_X12_isAhead_2 {E : ET} {F : FT} {fo : Option (Int32 × HS)} (hC : Cx E F 4 cX12_isAhead RX12 GT) (hO : Ro F rm_X12_isAhead) (hR : RI E F .boolean fo) (hf : fo ≠ none) (t : Nat) (ht1 : kd t = 12) (ht2 : AL E t) (x1 : Int32) (x2 : Int32) : ∀ (n : Nat) (x3 : Int32) (σ : HS), f_X12_isAhead_2 t x1 x2 n x3 σ = fo → G E F 2 [(0, .ref (E.2.2.1 t)), (1, .int x1), (2, .int x2), (3, .int x3)] [] σ := by
  intro n
  induction n with
  | zero =>
    intro x3 σ h
    exact absurd (h.symm.trans rfl) hf
  | succ n ih =>
    intro x3 σ h
    refine g_iload_n hC dX12_isAhead_2 rfl 3 rfl ?_
    refine g_aload_n hC dX12_isAhead_3 rfl 0 rfl ?_
    refine g_getI (k := 20) hC cr12 ui_12 ht1 ht2 (by decide) fl_X12_193 rfl rfl dX12_isAhead_4 ?_
    refine g_icmp_ge (tgt := 58) hC dX12_isAhead_7 (by decide) h (fun c7 h => ?_) (fun c7 h => ?_)
    · refine g_iconst (v := 0) hC dX12_isAhead_58 (by decide) ?_
      exact g_iret hC hR dX12_isAhead_59 rfl h
    · refine g_aload_n hC dX12_isAhead_10 rfl 0 rfl ?_
      refine g_iconst (v := 0) hC dX12_isAhead_11 (by decide) ?_
      refine g_iload_n hC dX12_isAhead_12 rfl 1 rfl ?_
      refine g_iload_n hC dX12_isAhead_13 rfl 3 rfl ?_
      obtain ⟨q1, hq1, h⟩ := bd_of h hf
      refine g_cVJ (As := [.int 0, .int x1, .int x3]) hC hO (c_X12_weightAt _ hC.2.2.2.2.2.2.1 t ht1 ht2 0 x1 x3 σ (nn_of hq1)) gc_X12_316 (xk_X12_weightAt _ (Nat.le_of_ble_eq_true rfl) (Nat.le_of_ble_eq_true rfl)) cr12 ht1 ht2 rfl (Nat.le_of_ble_eq_true rfl) dX12_isAhead_14 hq1 ?_
      refine g_aload_n hC dX12_isAhead_17 rfl 0 rfl ?_
      refine g_iconst (v := 0) hC dX12_isAhead_18 (by decide) ?_
      refine g_iload_n hC dX12_isAhead_19 rfl 2 rfl ?_
      refine g_iload_n hC dX12_isAhead_20 rfl 3 rfl ?_
      obtain ⟨q2, hq2, h⟩ := bd_of h hf
      refine g_cVJ (As := [.int 0, .int x2, .int x3]) hC hO (c_X12_weightAt _ hC.2.2.2.2.2.2.1 t ht1 ht2 0 x2 x3 q1.2 (nn_of hq2)) gc_X12_316 (xk_X12_weightAt _ (Nat.le_of_ble_eq_true rfl) (Nat.le_of_ble_eq_true rfl)) cr12 ht1 ht2 rfl (Nat.le_of_ble_eq_true rfl) dX12_isAhead_21 hq2 ?_
      refine g_lc_eq (tgt := 52) hC dX12_isAhead_24 dX12_isAhead_25 (by decide) h (fun c24 h => ?_) (fun c24 h => ?_)
      · refine g_iinc (v := x3 + 1) (lv' := [(3, .int (x3 + 1)), (0, .ref (E.2.2.1 t)), (1, .int x1), (2, .int x2)]) hC dX12_isAhead_52 3 rfl rfl (by decide) rfl ?_
        refine g_goto (tgt := 2) hC dX12_isAhead_55 (by decide) ?_
        exact g_sub [1, 2, 3, 0] rfl (ih (x3 + 1) q2.2 h)
      · refine g_aload_n hC dX12_isAhead_28 rfl 0 rfl ?_
        refine g_iconst (v := 0) hC dX12_isAhead_29 (by decide) ?_
        refine g_iload_n hC dX12_isAhead_30 rfl 1 rfl ?_
        refine g_iload_n hC dX12_isAhead_31 rfl 3 rfl ?_
        obtain ⟨q3, hq3, h⟩ := bd_of h hf
        refine g_cVJ (As := [.int 0, .int x1, .int x3]) hC hO (c_X12_weightAt _ hC.2.2.2.2.2.2.1 t ht1 ht2 0 x1 x3 q2.2 (nn_of hq3)) gc_X12_316 (xk_X12_weightAt _ (Nat.le_of_ble_eq_true rfl) (Nat.le_of_ble_eq_true rfl)) cr12 ht1 ht2 rfl (Nat.le_of_ble_eq_true rfl) dX12_isAhead_32 hq3 ?_
        refine g_aload_n hC dX12_isAhead_35 rfl 0 rfl ?_
        refine g_iconst (v := 0) hC dX12_isAhead_36 (by decide) ?_
        refine g_iload_n hC dX12_isAhead_37 rfl 2 rfl ?_
        refine g_iload_n hC dX12_isAhead_38 rfl 3 rfl ?_
        obtain ⟨q4, hq4, h⟩ := bd_of h hf
        refine g_cVJ (As := [.int 0, .int x2, .int x3]) hC hO (c_X12_weightAt _ hC.2.2.2.2.2.2.1 t ht1 ht2 0 x2 x3 q3.2 (nn_of hq4)) gc_X12_316 (xk_X12_weightAt _ (Nat.le_of_ble_eq_true rfl) (Nat.le_of_ble_eq_true rfl)) cr12 ht1 ht2 rfl (Nat.le_of_ble_eq_true rfl) dX12_isAhead_39 hq4 ?_
        refine g_lc_ge (tgt := 50) hC dX12_isAhead_42 dX12_isAhead_43 (by decide) h (fun c42 h => ?_) (fun c42 h => ?_)
        · refine g_iconst (v := 0) hC dX12_isAhead_50 (by decide) ?_
          exact g_sub [] rfl (k_X12_isAhead_51 hC hO hR hf 0 q4.2 h)
        · refine g_iconst (v := 1) hC dX12_isAhead_46 (by decide) ?_
          refine g_goto (tgt := 51) hC dX12_isAhead_47 (by decide) ?_
          exact g_sub [] rfl (k_X12_isAhead_51 hC hO hR hf 1 q4.2 h)
set_option maxHeartbeats 4000000 in
set_option maxRecDepth 100000 in
theorem k_X12_isAhead_0 {E : ET} {F : FT} {fo : Option (Int32 × HS)} (hC : Cx E F 4 cX12_isAhead RX12 GT) (hO : Ro F rm_X12_isAhead) (hR : RI E F .boolean fo) (hf : fo ≠ none) (t : Nat) (ht1 : kd t = 12) (ht2 : AL E t) (x1 : Int32) (x2 : Int32) (σ : HS) (h : f_X12_isAhead t x1 x2 σ = fo) : G E F 0 [(0, .ref (E.2.2.1 t)), (1, .int x1), (2, .int x2)] [] σ := by
    refine g_iconst (v := 0) hC dX12_isAhead_0 (by decide) ?_
    refine g_istore_n (lv' := [(3, .int 0), (0, .ref (E.2.2.1 t)), (1, .int x1), (2, .int x2)]) hC dX12_isAhead_1 rfl (by decide) rfl ?_
    exact g_sub [1, 2, 3, 0] rfl (k_X12_isAhead_2 hC hO hR hf t ht1 ht2 x1 x2 FU 0 σ h)
theorem xk_X12_isAhead (R : Room) (h1 : 1 + 1 ≤ R.frames) (h2 : 70 ≤ R.locals) : xw R yX12_isAhead w_X12_isAhead GT cX12_isAhead 4 (some .boolean) rm_X12_isAhead 2 := ⟨rfl, rfl, rfl, h1, h2, ⟨by decide, by decide⟩, by decide +kernel⟩
theorem c_X12_isAhead (E : ET) (hE : EO E) (t : Nat) (ht1 : kd t = 12) (ht2 : AL E t) (x1 : Int32) (x2 : Int32) (σ : HS) (hn : f_X12_isAhead t x1 x2 σ ≠ none) : CoI E yX12_isAhead w_X12_isAhead rm_X12_isAhead [.ref (E.2.2.1 t), .int x1, .int x2] σ (f_X12_isAhead t x1 x2 σ) := CoI.of (lv := [(0, .ref (E.2.2.1 t)), (1, .int x1), (2, .int x2)]) hE (plainFor_of_name (by decide)) rfl (Nat.le_of_ble_eq_true rfl) rfl (fun F hC hO hR => k_X12_isAhead_0 hC hO hR hn t ht1 ht2 x1 x2 σ rfl)
def rm_X12_corner : Room := { frames := 7, cells := 0, slots := 0, locals := 239 }
theorem wc_X12_findNow : Cond.code yX12_findNow cX12_findNow 1 (some .boolean) ∈ GT := gtr_33 _ (List.mem_of_getElem? (i := 11) rfl)
theorem gc_X12_361 : GoodIn GT (wsV RX12 361 RX12 yX12_findNow w_X12_findNow) := gi_V (gtr_33 _ (List.mem_of_getElem? (i := 8) rfl)) (gtr_33 _ (List.mem_of_getElem? (i := 9) rfl)) (gtr_33 _ (List.mem_of_getElem? (i := 10) rfl)) (gtr_1 _ (List.mem_of_getElem? (i := 5) rfl)) wc_X12_findNow
theorem wc_X12_isAhead : Cond.code yX12_isAhead cX12_isAhead 4 (some .boolean) ∈ GT := gtr_34 _ (List.mem_of_getElem? (i := 14) rfl)
theorem gc_X12_364 : GoodIn GT (wsV RX12 364 RX12 yX12_isAhead w_X12_isAhead) := gi_V (gtr_34 _ (List.mem_of_getElem? (i := 11) rfl)) (gtr_34 _ (List.mem_of_getElem? (i := 12) rfl)) (gtr_34 _ (List.mem_of_getElem? (i := 13) rfl)) (gtr_1 _ (List.mem_of_getElem? (i := 5) rfl)) wc_X12_isAhead
set_option maxHeartbeats 4000000 in
set_option maxRecDepth 100000 in
theorem k_X12_corner_42 {E : ET} {F : FT} {fo : Option (Int64 × HS)} (hC : Cx E F 6 cX12_corner RX12 GT) (hO : Ro F rm_X12_corner) (hR : RJ E F fo) (hf : fo ≠ none) (σ : HS) (h : f_X12_corner_42 σ = fo) : G E F 42 [] [] σ := by
    refine g_ldc2 (v := (-1)) hC cl_X12_258 dX12_corner_42 ?_
    exact g_lret hC hR dX12_corner_45 h
set_option maxHeartbeats 4000000 in
set_option maxRecDepth 100000 in
theorem k_X12_corner_92 {E : ET} {F : FT} {fo : Option (Int64 × HS)} (hC : Cx E F 6 cX12_corner RX12 GT) (hO : Ro F rm_X12_corner) (hR : RJ E F fo) (hf : fo ≠ none) (t : Nat) (ht1 : kd t = 12) (ht2 : AL E t) (x1 : Int32) (x2 : Int32) (x3 : Int32) (x5 : Int32) (s0 : Int32) (s1 : Int32) (r48 : Int32 → HS → Option (Int64 × HS)) (h48 : ∀ (x3 : Int32) (σ : HS), r48 x3 σ = fo → G E F 48 [(0, .ref (E.2.2.1 t)), (1, .int x1), (2, .int x2), (3, .int x3)] [] σ) (r64 : Int32 → Int32 → HS → Option (Int64 × HS)) (h64 : ∀ (x4 : Int32) (x5 : Int32) (σ : HS), r64 x4 x5 σ = fo → G E F 64 [(0, .ref (E.2.2.1 t)), (1, .int x1), (2, .int x2), (3, .int x3), (4, .int x4), (5, .int x5)] [] σ) (σ : HS) (h : f_X12_corner_92 r48 r64 t x1 x2 x3 x5 s0 s1 σ = fo) : G E F 92 [(0, .ref (E.2.2.1 t)), (1, .int x1), (2, .int x2), (3, .int x3), (5, .int x5)] [.int s0, .int s1] σ := by
    refine g_iadd hC dX12_corner_92 ?_
    refine g_istore (lv' := [(4, .int (s1 + s0)), (0, .ref (E.2.2.1 t)), (1, .int x1), (2, .int x2), (3, .int x3), (5, .int x5)]) hC dX12_corner_93 (by decide) rfl ?_
    refine g_iinc (v := x5 + 1) (lv' := [(5, .int (x5 + 1)), (4, .int (s1 + s0)), (0, .ref (E.2.2.1 t)), (1, .int x1), (2, .int x2), (3, .int x3)]) hC dX12_corner_95 5 rfl rfl (by decide) rfl ?_
    refine g_goto (tgt := 64) hC dX12_corner_98 (by decide) ?_
    exact g_sub [2, 3, 4, 5, 1, 0] rfl (h64 (s1 + s0) (x5 + 1) σ h)
set_option maxHeartbeats 4000000 in
set_option maxRecDepth 100000 in
theorem k_X12_corner_64 {E : ET} {F : FT} {fo : Option (Int64 × HS)} (hC : Cx E F 6 cX12_corner RX12 GT) (hO : Ro F rm_X12_corner) (hR : RJ E F fo) (hf : fo ≠ none) (t : Nat) (ht1 : kd t = 12) (ht2 : AL E t) (x1 : Int32) (x2 : Int32) (x3 : Int32) (r48 : Int32 → HS → Option (Int64 × HS)) (h48 : ∀ (x3 : Int32) (σ : HS), r48 x3 σ = fo → G E F 48 [(0, .ref (E.2.2.1 t)), (1, .int x1), (2, .int x2), (3, .int x3)] [] σ) : ∀ (n : Nat) (x4 : Int32) (x5 : Int32) (σ : HS), f_X12_corner_64 t x1 x2 x3 r48 n x4 x5 σ = fo → G E F 64 [(0, .ref (E.2.2.1 t)), (1, .int x1), (2, .int x2), (3, .int x3), (4, .int x4), (5, .int x5)] [] σ := by
  intro n
  induction n with
  | zero =>
    intro x4 x5 σ h
    exact absurd (h.symm.trans rfl) hf
  | succ n ih =>
    intro x4 x5 σ h
    refine g_iload hC dX12_corner_64 5 rfl ?_
    refine g_aload_n hC dX12_corner_66 rfl 0 rfl ?_
    refine g_getR (cj := 14) (k := 28) hC cr12 ui_12 ht1 ht2 (by decide) fl_X12_112 rfl rfl dX12_corner_67 h hf (fun a1 ea1 ka1 na1 h => ?_)
    refine g_iconst (v := 0) hC dX12_corner_70 (by decide) ?_
    refine g_iald hC ka1 na1 dX12_corner_71 h hf (fun h => ?_)
    refine g_icmp_ge (tgt := 101) hC dX12_corner_72 (by decide) h (fun c72 h => ?_) (fun c72 h => ?_)
    · refine g_iload hC dX12_corner_101 4 rfl ?_
      refine g_iload_n hC dX12_corner_103 rfl 1 rfl ?_
      refine g_icmp_ne (tgt := 115) hC dX12_corner_104 (by decide) h (fun c104 h => ?_) (fun c104 h => ?_)
      · refine g_iinc (v := x3 + 1) (lv' := [(3, .int (x3 + 1)), (0, .ref (E.2.2.1 t)), (1, .int x1), (2, .int x2), (4, .int x4), (5, .int x5)]) hC dX12_corner_115 3 rfl rfl (by decide) rfl ?_
        refine g_goto (tgt := 48) hC dX12_corner_118 (by decide) ?_
        exact g_sub [1, 2, 3, 0] rfl (h48 (x3 + 1) σ h)
      · refine g_aload_n hC dX12_corner_107 rfl 0 rfl ?_
        refine g_iconst (v := 0) hC dX12_corner_108 (by decide) ?_
        refine g_iload_n hC dX12_corner_109 rfl 3 rfl ?_
        refine g_iload_n hC dX12_corner_110 rfl 2 rfl ?_
        obtain ⟨q2, hq2, h⟩ := bd_of h hf
        refine g_cVJ (As := [.int 0, .int x3, .int x2]) hC hO (c_X12_weightAt _ hC.2.2.2.2.2.2.1 t ht1 ht2 0 x3 x2 σ (nn_of hq2)) gc_X12_316 (xk_X12_weightAt _ (Nat.le_of_ble_eq_true rfl) (Nat.le_of_ble_eq_true rfl)) cr12 ht1 ht2 rfl (Nat.le_of_ble_eq_true rfl) dX12_corner_111 hq2 ?_
        exact g_lret hC hR dX12_corner_114 h
    · refine g_iload hC dX12_corner_75 4 rfl ?_
      refine g_aload_n hC dX12_corner_77 rfl 0 rfl ?_
      refine g_iload hC dX12_corner_78 5 rfl ?_
      refine g_iload_n hC dX12_corner_80 rfl 3 rfl ?_
      obtain ⟨q3, hq3, h⟩ := bd_of h hf
      refine g_cVI (As := [.int x5, .int x3]) hC hO (c_X12_isAhead _ hC.2.2.2.2.2.2.1 t ht1 ht2 x5 x3 σ (nn_of hq3)) gc_X12_364 (xk_X12_isAhead _ (Nat.le_of_ble_eq_true rfl) (Nat.le_of_ble_eq_true rfl)) cr12 ht1 ht2 rfl (Nat.le_of_ble_eq_true rfl) dX12_corner_81 hq3 ?_
      refine g_if_eq (tgt := 91) hC dX12_corner_84 (by decide) h (fun c84 h => ?_) (fun c84 h => ?_)
      · refine g_iconst (v := 0) hC dX12_corner_91 (by decide) ?_
        exact g_sub [0, 1, 2, 3, 5] rfl (k_X12_corner_92 hC hO hR hf t ht1 ht2 x1 x2 x3 x5 0 x4 r48 h48 (f_X12_corner_64 t x1 x2 x3 r48 n) ih q3.2 h)
      · refine g_iconst (v := 1) hC dX12_corner_87 (by decide) ?_
        refine g_goto (tgt := 92) hC dX12_corner_88 (by decide) ?_
        exact g_sub [0, 1, 2, 3, 5] rfl (k_X12_corner_92 hC hO hR hf t ht1 ht2 x1 x2 x3 x5 1 x4 r48 h48 (f_X12_corner_64 t x1 x2 x3 r48 n) ih q3.2 h)
set_option maxHeartbeats 4000000 in
set_option maxRecDepth 100000 in
theorem k_X12_corner_48 {E : ET} {F : FT} {fo : Option (Int64 × HS)} (hC : Cx E F 6 cX12_corner RX12 GT) (hO : Ro F rm_X12_corner) (hR : RJ E F fo) (hf : fo ≠ none) (t : Nat) (ht1 : kd t = 12) (ht2 : AL E t) (x1 : Int32) (x2 : Int32) : ∀ (n : Nat) (x3 : Int32) (σ : HS), f_X12_corner_48 t x1 x2 n x3 σ = fo → G E F 48 [(0, .ref (E.2.2.1 t)), (1, .int x1), (2, .int x2), (3, .int x3)] [] σ := by
  intro n
  induction n with
  | zero =>
    intro x3 σ h
    exact absurd (h.symm.trans rfl) hf
  | succ n ih =>
    intro x3 σ h
    refine g_iload_n hC dX12_corner_48 rfl 3 rfl ?_
    refine g_aload_n hC dX12_corner_49 rfl 0 rfl ?_
    refine g_getR (cj := 14) (k := 28) hC cr12 ui_12 ht1 ht2 (by decide) fl_X12_112 rfl rfl dX12_corner_50 h hf (fun a1 ea1 ka1 na1 h => ?_)
    refine g_iconst (v := 0) hC dX12_corner_53 (by decide) ?_
    refine g_iald hC ka1 na1 dX12_corner_54 h hf (fun h => ?_)
    refine g_icmp_ge (tgt := 121) hC dX12_corner_55 (by decide) h (fun c55 h => ?_) (fun c55 h => ?_)
    · refine g_ldc2 (v := (-1)) hC cl_X12_258 dX12_corner_121 ?_
      exact g_lret hC hR dX12_corner_124 h
    · refine g_iconst (v := 0) hC dX12_corner_58 (by decide) ?_
      refine g_istore (lv' := [(4, .int 0), (0, .ref (E.2.2.1 t)), (1, .int x1), (2, .int x2), (3, .int x3)]) hC dX12_corner_59 (by decide) rfl ?_
      refine g_iconst (v := 0) hC dX12_corner_61 (by decide) ?_
      refine g_istore (lv' := [(5, .int 0), (4, .int 0), (0, .ref (E.2.2.1 t)), (1, .int x1), (2, .int x2), (3, .int x3)]) hC dX12_corner_62 (by decide) rfl ?_
      exact g_sub [2, 3, 4, 5, 1, 0] rfl (k_X12_corner_64 hC hO hR hf t ht1 ht2 x1 x2 x3 (f_X12_corner_48 t x1 x2 n) ih FU 0 0 σ h)
set_option maxHeartbeats 4000000 in
set_option maxRecDepth 100000 in
theorem k_X12_corner_0 {E : ET} {F : FT} {fo : Option (Int64 × HS)} (hC : Cx E F 6 cX12_corner RX12 GT) (hO : Ro F rm_X12_corner) (hR : RJ E F fo) (hf : fo ≠ none) (t : Nat) (ht1 : kd t = 12) (ht2 : AL E t) (x1 : Int32) (x2 : Int32) (σ : HS) (h : f_X12_corner t x1 x2 σ = fo) : G E F 0 [(0, .ref (E.2.2.1 t)), (1, .int x1), (2, .int x2)] [] σ := by
    refine g_aload_n hC dX12_corner_0 rfl 0 rfl ?_
    refine g_iconst (v := 0) hC dX12_corner_1 (by decide) ?_
    refine g_putI (k := 0) hC cr12 ui_12 tyX12_ok nmX12 ht1 ht2 (by decide) fl_X12_1 rfl rfl rfl rfl dX12_corner_2 ?_
    refine g_iload_n hC dX12_corner_5 rfl 2 rfl ?_
    refine g_iconst (v := 0) hC dX12_corner_6 (by decide) ?_
    refine g_aload_n hC dX12_corner_7 rfl 0 rfl ?_
    refine g_getI (k := 20) hC cr12 ui_12 ht1 ht2 (by decide) fl_X12_193 rfl rfl dX12_corner_8 ?_
    refine g_iconst (v := 1) hC dX12_corner_11 (by decide) ?_
    refine g_isub hC dX12_corner_12 ?_
    obtain ⟨q1, hq1, h⟩ := bd_of h hf
    refine g_cSI (As := [.int x2, .int 0, .int (((sI σ t 0 0).1 t 20) - 1)]) hC hO (c_X12_within _ hC.2.2.2.2.2.2.1 x2 0 (((sI σ t 0 0).1 t 20) - 1) (sI σ t 0 0) (nn_of hq1)) gc_X12_213 (xk_X12_within _ (Nat.le_of_ble_eq_true rfl) (Nat.le_of_ble_eq_true rfl)) rfl (Nat.le_of_ble_eq_true rfl) dX12_corner_13 hq1 ?_
    refine g_if_eq (tgt := 42) hC dX12_corner_16 (by decide) h (fun c16 h => ?_) (fun c16 h => ?_)
    · exact g_sub [] rfl (k_X12_corner_42 hC hO hR hf q1.2 h)
    · refine g_aload_n hC dX12_corner_19 rfl 0 rfl ?_
      obtain ⟨q2, hq2, h⟩ := bd_of h hf
      refine g_cVI (As := []) hC hO (c_X12_findNow _ hC.2.2.2.2.2.2.1 t ht1 ht2 q1.2 (nn_of hq2)) gc_X12_361 (xk_X12_findNow _ (Nat.le_of_ble_eq_true rfl) (Nat.le_of_ble_eq_true rfl)) cr12 ht1 ht2 rfl (Nat.le_of_ble_eq_true rfl) dX12_corner_20 hq2 ?_
      refine g_if_eq (tgt := 42) hC dX12_corner_23 (by decide) h (fun c23 h => ?_) (fun c23 h => ?_)
      · exact g_sub [] rfl (k_X12_corner_42 hC hO hR hf q2.2 h)
      · refine g_iload_n hC dX12_corner_26 rfl 1 rfl ?_
        refine g_iconst (v := 0) hC dX12_corner_27 (by decide) ?_
        refine g_aload_n hC dX12_corner_28 rfl 0 rfl ?_
        refine g_getR (cj := 14) (k := 28) hC cr12 ui_12 ht1 ht2 (by decide) fl_X12_112 rfl rfl dX12_corner_29 h hf (fun a3 ea3 ka3 na3 h => ?_)
        refine g_iconst (v := 0) hC dX12_corner_32 (by decide) ?_
        refine g_iald hC ka3 na3 dX12_corner_33 h hf (fun h => ?_)
        refine g_iconst (v := 1) hC dX12_corner_34 (by decide) ?_
        refine g_isub hC dX12_corner_35 ?_
        obtain ⟨q4, hq4, h⟩ := bd_of h hf
        refine g_cSI (As := [.int x1, .int 0, .int ((q2.2.1 a3 (0 : Int32).toNatClampNeg) - 1)]) hC hO (c_X12_within _ hC.2.2.2.2.2.2.1 x1 0 ((q2.2.1 a3 (0 : Int32).toNatClampNeg) - 1) q2.2 (nn_of hq4)) gc_X12_213 (xk_X12_within _ (Nat.le_of_ble_eq_true rfl) (Nat.le_of_ble_eq_true rfl)) rfl (Nat.le_of_ble_eq_true rfl) dX12_corner_36 hq4 ?_
        refine g_if_ne (tgt := 46) hC dX12_corner_39 (by decide) h (fun c39 h => ?_) (fun c39 h => ?_)
        · refine g_iconst (v := 0) hC dX12_corner_46 (by decide) ?_
          refine g_istore_n (lv' := [(3, .int 0), (0, .ref (E.2.2.1 t)), (1, .int x1), (2, .int x2)]) hC dX12_corner_47 rfl (by decide) rfl ?_
          exact g_sub [1, 2, 3, 0] rfl (k_X12_corner_48 hC hO hR hf t ht1 ht2 x1 x2 FU 0 q4.2 h)
        · exact g_sub [] rfl (k_X12_corner_42 hC hO hR hf q4.2 h)
theorem xk_X12_corner (R : Room) (h1 : 7 + 1 ≤ R.frames) (h2 : 276 ≤ R.locals) : xw R yX12_corner w_X12_corner GT cX12_corner 6 (some .long) rm_X12_corner 2 := ⟨rfl, rfl, rfl, h1, h2, ⟨by decide, by decide⟩, by decide +kernel⟩
theorem c_X12_corner (E : ET) (hE : EO E) (t : Nat) (ht1 : kd t = 12) (ht2 : AL E t) (x1 : Int32) (x2 : Int32) (σ : HS) (hn : f_X12_corner t x1 x2 σ ≠ none) : CoJ E yX12_corner w_X12_corner rm_X12_corner [.ref (E.2.2.1 t), .int x1, .int x2] σ (f_X12_corner t x1 x2 σ) := CoJ.of (lv := [(0, .ref (E.2.2.1 t)), (1, .int x1), (2, .int x2)]) hE (plainFor_of_name (by decide)) rfl (Nat.le_of_ble_eq_true rfl) rfl (fun F hC hO hR => k_X12_corner_0 hC hO hR hn t ht1 ht2 x1 x2 σ rfl)
def rm_X12_smallFrom (i : Nat) : Room := { frames := 6 + i, cells := 0, slots := 0, locals := 207 + i * 36 }
theorem xk_X12_smallFrom (i : Nat) (R : Room) (h1 : (rm_X12_smallFrom i).frames + 1 ≤ R.frames) (h2 : 36 + (rm_X12_smallFrom i).locals ≤ R.locals) : xw R yX12_smallFrom w_X12_smallFrom GT cX12_smallFrom 5 (some .boolean) (rm_X12_smallFrom i) 3 := ⟨rfl, rfl, rfl, h1, h2, ⟨by decide, by decide⟩, by decide +kernel⟩
theorem wc_X12_smallFrom : Cond.code yX12_smallFrom cX12_smallFrom 5 (some .boolean) ∈ GT := gtr_36 _ (List.mem_of_getElem? (i := 19) rfl)
theorem gc_X12_370 : GoodIn GT (wsV RX12 370 RX12 yX12_smallFrom w_X12_smallFrom) := gi_V (gtr_36 _ (List.mem_of_getElem? (i := 16) rfl)) (gtr_36 _ (List.mem_of_getElem? (i := 17) rfl)) (gtr_36 _ (List.mem_of_getElem? (i := 18) rfl)) (gtr_1 _ (List.mem_of_getElem? (i := 5) rfl)) wc_X12_smallFrom
theorem fl_X12_367 : Cond.fieldLink RX12 367 "EveryMeasureModel" (TX12 36).2.1 (TX12 36).2.2.1 ∈ GT := gtr_36 _ (List.mem_of_getElem? (i := 15) rfl)
set_option maxHeartbeats 4000000 in
set_option maxRecDepth 100000 in
theorem k_X12_smallFrom_94 {E : ET} {F : FT} {fo : Option (Int32 × HS)} {d : Nat} (hC : Cx E F 5 cX12_smallFrom RX12 GT) (hO : Ro F (rm_X12_smallFrom (1 * d + 1))) (hR : RI E F .boolean fo) (hf : fo ≠ none) (rc : Nat → Int32 → Int32 → Int32 → HS → Option (Int32 × HS)) (hrc : ∀ (t : Nat) (_ : kd t = 12) (_ : AL E t) (x1 : Int32) (x2 : Int32) (x3 : Int32) (σ : HS), rc t x1 x2 x3 σ ≠ none → CoI E yX12_smallFrom w_X12_smallFrom (rm_X12_smallFrom (1 * d)) [.ref (E.2.2.1 t), .int x1, .int x2, .int x3] σ (rc t x1 x2 x3 σ)) (t : Nat) (ht1 : kd t = 12) (ht2 : AL E t) (x1 : Int32) (x3 : Int32) (x4 : Int32) (r52 : Int32 → HS → Option (Int32 × HS)) (h52 : ∀ (x4 : Int32) (σ : HS), r52 x4 σ = fo → G E F 52 [(0, .ref (E.2.2.1 t)), (1, .int x1), (3, .int x3), (4, .int x4)] [] σ) (σ : HS) (h : f_X12_smallFrom_94 rc r52 t x1 x3 x4 σ = fo) : G E F 94 [(0, .ref (E.2.2.1 t)), (1, .int x1), (3, .int x3), (4, .int x4)] [] σ := by
    refine g_iinc (v := x4 + 1) (lv' := [(4, .int (x4 + 1)), (0, .ref (E.2.2.1 t)), (1, .int x1), (3, .int x3)]) hC dX12_smallFrom_94 3 rfl rfl (by decide) rfl ?_
    refine g_goto (tgt := 52) hC dX12_smallFrom_97 (by decide) ?_
    exact g_sub [1, 2, 3, 0] rfl (h52 (x4 + 1) σ h)
set_option maxHeartbeats 4000000 in
set_option maxRecDepth 100000 in
theorem k_X12_smallFrom_52 {E : ET} {F : FT} {fo : Option (Int32 × HS)} {d : Nat} (hC : Cx E F 5 cX12_smallFrom RX12 GT) (hO : Ro F (rm_X12_smallFrom (1 * d + 1))) (hR : RI E F .boolean fo) (hf : fo ≠ none) (rc : Nat → Int32 → Int32 → Int32 → HS → Option (Int32 × HS)) (hrc : ∀ (t : Nat) (_ : kd t = 12) (_ : AL E t) (x1 : Int32) (x2 : Int32) (x3 : Int32) (σ : HS), rc t x1 x2 x3 σ ≠ none → CoI E yX12_smallFrom w_X12_smallFrom (rm_X12_smallFrom (1 * d)) [.ref (E.2.2.1 t), .int x1, .int x2, .int x3] σ (rc t x1 x2 x3 σ)) (t : Nat) (ht1 : kd t = 12) (ht2 : AL E t) (x1 : Int32) (x3 : Int32) : ∀ (n : Nat) (x4 : Int32) (σ : HS), f_X12_smallFrom_52 rc t x1 x3 n x4 σ = fo → G E F 52 [(0, .ref (E.2.2.1 t)), (1, .int x1), (3, .int x3), (4, .int x4)] [] σ := by
  intro n
  induction n with
  | zero =>
    intro x4 σ h
    exact absurd (h.symm.trans rfl) hf
  | succ n ih =>
    intro x4 σ h
    refine g_iload hC dX12_smallFrom_52 3 rfl ?_
    refine g_aload_n hC dX12_smallFrom_54 rfl 0 rfl ?_
    refine g_getR (cj := 14) (k := 13) hC cr12 ui_12 ht1 ht2 (by decide) fl_X12_79 rfl rfl dX12_smallFrom_55 h hf (fun a1 ea1 ka1 na1 h => ?_)
    refine g_iconst (v := 0) hC dX12_smallFrom_58 (by decide) ?_
    refine g_iald hC ka1 na1 dX12_smallFrom_59 h hf (fun h => ?_)
    refine g_icmp_ge (tgt := 100) hC dX12_smallFrom_60 (by decide) h (fun c60 h => ?_) (fun c60 h => ?_)
    · refine g_iconst (v := 0) hC dX12_smallFrom_100 (by decide) ?_
      exact g_iret hC hR dX12_smallFrom_101 rfl h
    · refine g_aload_n hC dX12_smallFrom_63 rfl 0 rfl ?_
      refine g_iload hC dX12_smallFrom_64 3 rfl ?_
      obtain ⟨q2, hq2, h⟩ := bd_of h hf
      refine g_cVI (As := [.int x4]) hC hO (c_X12_isHeard _ hC.2.2.2.2.2.2.1 t ht1 ht2 x4 σ (nn_of hq2)) gc_X12_270 (xk_X12_isHeard _ (by simp only [rm_X12_smallFrom]; omega) (by simp only [rm_X12_smallFrom]; omega)) cr12 ht1 ht2 rfl (Nat.le_of_ble_eq_true rfl) dX12_smallFrom_66 hq2 ?_
      refine g_if_eq (tgt := 94) hC dX12_smallFrom_69 (by decide) h (fun c69 h => ?_) (fun c69 h => ?_)
      · exact g_sub [0, 1, 2, 3] rfl (k_X12_smallFrom_94 hC hO hR hf rc hrc t ht1 ht2 x1 x3 x4 (f_X12_smallFrom_52 rc t x1 x3 n) ih q2.2 h)
      · refine g_aload_n hC dX12_smallFrom_72 rfl 0 rfl ?_
        refine g_iload_n hC dX12_smallFrom_73 rfl 1 rfl ?_
        refine g_iconst (v := 1) hC dX12_smallFrom_74 (by decide) ?_
        refine g_isub hC dX12_smallFrom_75 ?_
        refine g_iload hC dX12_smallFrom_76 3 rfl ?_
        refine g_iconst (v := 1) hC dX12_smallFrom_78 (by decide) ?_
        refine g_iadd hC dX12_smallFrom_79 ?_
        refine g_iload_n hC dX12_smallFrom_80 rfl 2 rfl ?_
        refine g_iconst (v := 1) hC dX12_smallFrom_81 (by decide) ?_
        refine g_iload hC dX12_smallFrom_82 3 rfl ?_
        refine g_ishl hC dX12_smallFrom_84 ?_
        refine g_ior hC dX12_smallFrom_85 ?_
        obtain ⟨q3, hq3, h⟩ := bd_of h hf
        refine g_cVI (As := [.int (x1 - 1), .int (x4 + 1), .int (x3 ||| ((1 : Int32) <<< (x4 &&& 31)))]) hC hO (hrc t ht1 ht2 (x1 - 1) (x4 + 1) (x3 ||| ((1 : Int32) <<< (x4 &&& 31))) q2.2 (nn_of hq3)) gc_X12_370 (xk_X12_smallFrom (1 * d) _ (by simp only [rm_X12_smallFrom]; omega) (by simp only [rm_X12_smallFrom]; omega)) cr12 ht1 ht2 rfl (Nat.le_of_ble_eq_true rfl) dX12_smallFrom_86 hq3 ?_
        refine g_if_eq (tgt := 94) hC dX12_smallFrom_89 (by decide) h (fun c89 h => ?_) (fun c89 h => ?_)
        · exact g_sub [0, 1, 2, 3] rfl (k_X12_smallFrom_94 hC hO hR hf rc hrc t ht1 ht2 x1 x3 x4 (f_X12_smallFrom_52 rc t x1 x3 n) ih q3.2 h)
        · refine g_iconst (v := 1) hC dX12_smallFrom_92 (by decide) ?_
          exact g_iret hC hR dX12_smallFrom_93 rfl h
set_option maxHeartbeats 4000000 in
set_option maxRecDepth 100000 in
theorem k_X12_smallFrom_48 {E : ET} {F : FT} {fo : Option (Int32 × HS)} {d : Nat} (hC : Cx E F 5 cX12_smallFrom RX12 GT) (hO : Ro F (rm_X12_smallFrom (1 * d + 1))) (hR : RI E F .boolean fo) (hf : fo ≠ none) (rc : Nat → Int32 → Int32 → Int32 → HS → Option (Int32 × HS)) (hrc : ∀ (t : Nat) (_ : kd t = 12) (_ : AL E t) (x1 : Int32) (x2 : Int32) (x3 : Int32) (σ : HS), rc t x1 x2 x3 σ ≠ none → CoI E yX12_smallFrom w_X12_smallFrom (rm_X12_smallFrom (1 * d)) [.ref (E.2.2.1 t), .int x1, .int x2, .int x3] σ (rc t x1 x2 x3 σ)) (s0 : Int32) (σ : HS) (h : f_X12_smallFrom_48 rc s0 σ = fo) : G E F 48 [] [.int s0] σ := by
    obtain ⟨hz, h⟩ := zr_of h hf
    exact g_iret hC hR dX12_smallFrom_48 hz h
set_option maxHeartbeats 4000000 in
set_option maxRecDepth 100000 in
theorem k_X12_smallFrom_31 {E : ET} {F : FT} {fo : Option (Int32 × HS)} {d : Nat} (hC : Cx E F 5 cX12_smallFrom RX12 GT) (hO : Ro F (rm_X12_smallFrom (1 * d + 1))) (hR : RI E F .boolean fo) (hf : fo ≠ none) (rc : Nat → Int32 → Int32 → Int32 → HS → Option (Int32 × HS)) (hrc : ∀ (t : Nat) (_ : kd t = 12) (_ : AL E t) (x1 : Int32) (x2 : Int32) (x3 : Int32) (σ : HS), rc t x1 x2 x3 σ ≠ none → CoI E yX12_smallFrom w_X12_smallFrom (rm_X12_smallFrom (1 * d)) [.ref (E.2.2.1 t), .int x1, .int x2, .int x3] σ (rc t x1 x2 x3 σ)) (t : Nat) (ht1 : kd t = 12) (ht2 : AL E t) (s0 : Int32) (s1 : Nat) (hs1a : kd s1 = 12) (hs1b : AL E s1) (σ : HS) (h : f_X12_smallFrom_31 rc t s0 s1 σ = fo) : G E F 31 [(0, .ref (E.2.2.1 t))] [.int s0, .ref (E.2.2.1 s1)] σ := by
    refine g_putI (k := 36) hC cr12 ui_12 tyX12_ok nmX12 hs1a hs1b (by decide) fl_X12_367 rfl rfl rfl rfl dX12_smallFrom_31 ?_
    refine g_aload_n hC dX12_smallFrom_34 rfl 0 rfl ?_
    refine g_getR (cj := 14) (k := 28) hC cr12 ui_12 ht1 ht2 (by decide) fl_X12_112 rfl rfl dX12_smallFrom_35 h hf (fun a1 ea1 ka1 na1 h => ?_)
    refine g_iconst (v := 0) hC dX12_smallFrom_38 (by decide) ?_
    refine g_iald hC ka1 na1 dX12_smallFrom_39 h hf (fun h => ?_)
    refine g_if_ne (tgt := 47) hC dX12_smallFrom_40 (by decide) h (fun c40 h => ?_) (fun c40 h => ?_)
    · refine g_iconst (v := 0) hC dX12_smallFrom_47 (by decide) ?_
      exact g_sub [] rfl (k_X12_smallFrom_48 hC hO hR hf rc hrc 0 (sI σ s1 36 s0) h)
    · refine g_iconst (v := 1) hC dX12_smallFrom_43 (by decide) ?_
      refine g_goto (tgt := 48) hC dX12_smallFrom_44 (by decide) ?_
      exact g_sub [] rfl (k_X12_smallFrom_48 hC hO hR hf rc hrc 1 (sI σ s1 36 s0) h)
set_option maxHeartbeats 4000000 in
set_option maxRecDepth 100000 in
theorem k_X12_smallFrom_0 {E : ET} {F : FT} {fo : Option (Int32 × HS)} {d : Nat} (hC : Cx E F 5 cX12_smallFrom RX12 GT) (hO : Ro F (rm_X12_smallFrom (1 * d + 1))) (hR : RI E F .boolean fo) (hf : fo ≠ none) (rc : Nat → Int32 → Int32 → Int32 → HS → Option (Int32 × HS)) (hrc : ∀ (t : Nat) (_ : kd t = 12) (_ : AL E t) (x1 : Int32) (x2 : Int32) (x3 : Int32) (σ : HS), rc t x1 x2 x3 σ ≠ none → CoI E yX12_smallFrom w_X12_smallFrom (rm_X12_smallFrom (1 * d)) [.ref (E.2.2.1 t), .int x1, .int x2, .int x3] σ (rc t x1 x2 x3 σ)) (t : Nat) (ht1 : kd t = 12) (ht2 : AL E t) (x1 : Int32) (x2 : Int32) (x3 : Int32) (σ : HS) (h : f_X12_smallFrom_0 rc t x1 x2 x3 σ = fo) : G E F 0 [(0, .ref (E.2.2.1 t)), (1, .int x1), (2, .int x2), (3, .int x3)] [] σ := by
    refine g_iload_n hC dX12_smallFrom_0 rfl 1 rfl ?_
    refine g_if_ne (tgt := 49) hC dX12_smallFrom_1 (by decide) h (fun c1 h => ?_) (fun c1 h => ?_)
    · refine g_iload_n hC dX12_smallFrom_49 rfl 2 rfl ?_
      refine g_istore (lv' := [(4, .int x2), (0, .ref (E.2.2.1 t)), (1, .int x1), (2, .int x2), (3, .int x3)]) hC dX12_smallFrom_50 (by decide) rfl ?_
      exact g_sub [1, 2, 4, 0] rfl (k_X12_smallFrom_52 hC hO hR hf rc hrc t ht1 ht2 x1 x3 FU x2 σ h)
    · refine g_aload_n hC dX12_smallFrom_4 rfl 0 rfl ?_
      refine g_iload_n hC dX12_smallFrom_5 rfl 3 rfl ?_
      obtain ⟨q1, hq1, h⟩ := bd_of h hf
      refine g_cVV (As := [.int x3]) hC hO (c_X12_laysRows _ hC.2.2.2.2.2.2.1 t ht1 ht2 x3 σ (nn_of hq1)) gc_X12_298 (xk_X12_laysRows _ (by simp only [rm_X12_smallFrom]; omega) (by simp only [rm_X12_smallFrom]; omega)) cr12 ht1 ht2 rfl (Nat.le_of_ble_eq_true rfl) dX12_smallFrom_6 hq1 ?_
      refine g_aload_n hC dX12_smallFrom_9 rfl 0 rfl ?_
      obtain ⟨q2, hq2, h⟩ := bd_of h hf
      refine g_cVV (As := []) hC hO (c_X12_findCorners _ hC.2.2.2.2.2.2.1 t ht1 ht2 q1 (nn_of hq2)) gc_X12_301 (xk_X12_findCorners _ (by simp only [rm_X12_smallFrom]; omega) (by simp only [rm_X12_smallFrom]; omega)) cr12 ht1 ht2 rfl (Nat.le_of_ble_eq_true rfl) dX12_smallFrom_10 hq2 ?_
      refine g_aload_n hC dX12_smallFrom_13 rfl 0 rfl ?_
      refine g_aload_n hC dX12_smallFrom_14 rfl 0 rfl ?_
      refine g_getR (cj := 14) (k := 28) hC cr12 ui_12 ht1 ht2 (by decide) fl_X12_112 rfl rfl dX12_smallFrom_15 h hf (fun a3 ea3 ka3 na3 h => ?_)
      refine g_iconst (v := 0) hC dX12_smallFrom_18 (by decide) ?_
      refine g_iald hC ka3 na3 dX12_smallFrom_19 h hf (fun h => ?_)
      refine g_if_ne (tgt := 27) hC dX12_smallFrom_20 (by decide) h (fun c20 h => ?_) (fun c20 h => ?_)
      · refine g_aload_n hC dX12_smallFrom_27 rfl 0 rfl ?_
        refine g_getI (k := 36) hC cr12 ui_12 ht1 ht2 (by decide) fl_X12_367 rfl rfl dX12_smallFrom_28 ?_
        exact g_sub [0] rfl (k_X12_smallFrom_31 hC hO hR hf rc hrc t ht1 ht2 (q2.1 t 36) t ht1 ht2 q2 h)
      · refine g_iload_n hC dX12_smallFrom_23 rfl 3 rfl ?_
        refine g_goto (tgt := 31) hC dX12_smallFrom_24 (by decide) ?_
        exact g_sub [0] rfl (k_X12_smallFrom_31 hC hO hR hf rc hrc t ht1 ht2 x3 t ht1 ht2 q2 h)
theorem c_X12_smallFrom (E : ET) (hE : EO E) : ∀ (d : Nat) (t : Nat) (ht1 : kd t = 12) (ht2 : AL E t) (x1 : Int32) (x2 : Int32) (x3 : Int32) (σ : HS), f_X12_smallFrom d t x1 x2 x3 σ ≠ none → CoI E yX12_smallFrom w_X12_smallFrom (rm_X12_smallFrom (1 * d)) [.ref (E.2.2.1 t), .int x1, .int x2, .int x3] σ (f_X12_smallFrom d t x1 x2 x3 σ) := by
  intro d
  induction d with
  | zero => intro t ht1 ht2 x1 x2 x3 σ hn; exact absurd rfl hn
  | succ d ih =>
    intro t ht1 ht2 x1 x2 x3 σ hn
    exact CoI.of (lv := [(0, .ref (E.2.2.1 t)), (1, .int x1), (2, .int x2), (3, .int x3)]) hE (plainFor_of_name (by decide)) rfl (Nat.le_of_ble_eq_true rfl) rfl (fun F hC hO hR => k_X12_smallFrom_0 hC hO hR hn (f_X12_smallFrom d) ih t ht1 ht2 x1 x2 x3 σ rfl)
def rm_X12_small : Room := { frames := 19, cells := 0, slots := 0, locals := 675 }
set_option maxHeartbeats 4000000 in
set_option maxRecDepth 100000 in
theorem k_X12_small_21 {E : ET} {F : FT} {fo : Option (Int32 × HS)} (hC : Cx E F 3 cX12_small RX12 GT) (hO : Ro F rm_X12_small) (hR : RI E F .int fo) (hf : fo ≠ none) (σ : HS) (h : f_X12_small_21 σ = fo) : G E F 21 [] [] σ := by
    refine g_iconst (v := (-1)) hC dX12_small_21 (by decide) ?_
    exact g_iret hC hR dX12_small_22 rfl h
set_option maxHeartbeats 4000000 in
set_option maxRecDepth 100000 in
theorem k_X12_small_52 {E : ET} {F : FT} {fo : Option (Int32 × HS)} (hC : Cx E F 3 cX12_small RX12 GT) (hO : Ro F rm_X12_small) (hR : RI E F .int fo) (hf : fo ≠ none) (s0 : Int32) (σ : HS) (h : f_X12_small_52 s0 σ = fo) : G E F 52 [] [.int s0] σ := by
    exact g_iret hC hR dX12_small_52 rfl h
set_option maxHeartbeats 4000000 in
set_option maxRecDepth 100000 in
theorem k_X12_small_25 {E : ET} {F : FT} {fo : Option (Int32 × HS)} (hC : Cx E F 3 cX12_small RX12 GT) (hO : Ro F rm_X12_small) (hR : RI E F .int fo) (hf : fo ≠ none) (t : Nat) (ht1 : kd t = 12) (ht2 : AL E t) (x1 : Int32) : ∀ (n : Nat) (x2 : Int32) (σ : HS), f_X12_small_25 t x1 n x2 σ = fo → G E F 25 [(0, .ref (E.2.2.1 t)), (1, .int x1), (2, .int x2)] [] σ := by
  intro n
  induction n with
  | zero =>
    intro x2 σ h
    exact absurd (h.symm.trans rfl) hf
  | succ n ih =>
    intro x2 σ h
    refine g_iload_n hC dX12_small_25 rfl 2 rfl ?_
    refine g_iconst (v := 4) hC dX12_small_26 (by decide) ?_
    refine g_icmp_gt (tgt := 59) hC dX12_small_27 (by decide) h (fun c27 h => ?_) (fun c27 h => ?_)
    · refine g_iconst (v := (-1)) hC dX12_small_59 (by decide) ?_
      exact g_iret hC hR dX12_small_60 rfl h
    · refine g_aload_n hC dX12_small_30 rfl 0 rfl ?_
      refine g_iload_n hC dX12_small_31 rfl 2 rfl ?_
      refine g_iconst (v := 0) hC dX12_small_32 (by decide) ?_
      refine g_iconst (v := 0) hC dX12_small_33 (by decide) ?_
      obtain ⟨q1, hq1, h⟩ := bd_of h hf
      refine g_cVI (As := [.int x2, .int 0, .int 0]) hC hO (c_X12_smallFrom _ hC.2.2.2.2.2.2.1 DEP t ht1 ht2 x2 0 0 σ (nn_of hq1)) gc_X12_370 (xk_X12_smallFrom (1 * DEP) _ (Nat.le_of_ble_eq_true rfl) (Nat.le_of_ble_eq_true rfl)) cr12 ht1 ht2 rfl (Nat.le_of_ble_eq_true rfl) dX12_small_34 hq1 ?_
      refine g_if_eq (tgt := 53) hC dX12_small_37 (by decide) h (fun c37 h => ?_) (fun c37 h => ?_)
      · refine g_iinc (v := x2 + 1) (lv' := [(2, .int (x2 + 1)), (0, .ref (E.2.2.1 t)), (1, .int x1)]) hC dX12_small_53 2 rfl rfl (by decide) rfl ?_
        refine g_goto (tgt := 25) hC dX12_small_56 (by decide) ?_
        exact g_sub [1, 2, 0] rfl (ih (x2 + 1) q1.2 h)
      · refine g_iload_n hC dX12_small_40 rfl 1 rfl ?_
        refine g_if_ne (tgt := 48) hC dX12_small_41 (by decide) h (fun c41 h => ?_) (fun c41 h => ?_)
        · refine g_aload_n hC dX12_small_48 rfl 0 rfl ?_
          refine g_getI (k := 36) hC cr12 ui_12 ht1 ht2 (by decide) fl_X12_367 rfl rfl dX12_small_49 ?_
          exact g_sub [] rfl (k_X12_small_52 hC hO hR hf (q1.2.1 t 36) q1.2 h)
        · refine g_iload_n hC dX12_small_44 rfl 2 rfl ?_
          refine g_goto (tgt := 52) hC dX12_small_45 (by decide) ?_
          exact g_sub [] rfl (k_X12_small_52 hC hO hR hf x2 q1.2 h)
set_option maxHeartbeats 4000000 in
set_option maxRecDepth 100000 in
theorem k_X12_small_0 {E : ET} {F : FT} {fo : Option (Int32 × HS)} (hC : Cx E F 3 cX12_small RX12 GT) (hO : Ro F rm_X12_small) (hR : RI E F .int fo) (hf : fo ≠ none) (t : Nat) (ht1 : kd t = 12) (ht2 : AL E t) (x1 : Int32) (σ : HS) (h : f_X12_small t x1 σ = fo) : G E F 0 [(0, .ref (E.2.2.1 t)), (1, .int x1)] [] σ := by
    refine g_aload_n hC dX12_small_0 rfl 0 rfl ?_
    refine g_iconst (v := 0) hC dX12_small_1 (by decide) ?_
    refine g_putI (k := 0) hC cr12 ui_12 tyX12_ok nmX12 ht1 ht2 (by decide) fl_X12_1 rfl rfl rfl rfl dX12_small_2 ?_
    refine g_iload_n hC dX12_small_5 rfl 1 rfl ?_
    refine g_iconst (v := 0) hC dX12_small_6 (by decide) ?_
    refine g_iconst (v := 1) hC dX12_small_7 (by decide) ?_
    obtain ⟨q1, hq1, h⟩ := bd_of h hf
    refine g_cSI (As := [.int x1, .int 0, .int 1]) hC hO (c_X12_within _ hC.2.2.2.2.2.2.1 x1 0 1 (sI σ t 0 0) (nn_of hq1)) gc_X12_213 (xk_X12_within _ (Nat.le_of_ble_eq_true rfl) (Nat.le_of_ble_eq_true rfl)) rfl (Nat.le_of_ble_eq_true rfl) dX12_small_8 hq1 ?_
    refine g_if_eq (tgt := 21) hC dX12_small_11 (by decide) h (fun c11 h => ?_) (fun c11 h => ?_)
    · exact g_sub [] rfl (k_X12_small_21 hC hO hR hf q1.2 h)
    · refine g_aload_n hC dX12_small_14 rfl 0 rfl ?_
      obtain ⟨q2, hq2, h⟩ := bd_of h hf
      refine g_cVI (As := []) hC hO (c_X12_findNow _ hC.2.2.2.2.2.2.1 t ht1 ht2 q1.2 (nn_of hq2)) gc_X12_361 (xk_X12_findNow _ (Nat.le_of_ble_eq_true rfl) (Nat.le_of_ble_eq_true rfl)) cr12 ht1 ht2 rfl (Nat.le_of_ble_eq_true rfl) dX12_small_15 hq2 ?_
      refine g_if_eq (tgt := 23) hC dX12_small_18 (by decide) h (fun c18 h => ?_) (fun c18 h => ?_)
      · refine g_iconst (v := 1) hC dX12_small_23 (by decide) ?_
        refine g_istore_n (lv' := [(2, .int 1), (0, .ref (E.2.2.1 t)), (1, .int x1)]) hC dX12_small_24 rfl (by decide) rfl ?_
        exact g_sub [1, 2, 0] rfl (k_X12_small_25 hC hO hR hf t ht1 ht2 x1 FU 1 q2.2 h)
      · exact g_sub [] rfl (k_X12_small_21 hC hO hR hf q2.2 h)
theorem xk_X12_small (R : Room) (h1 : 19 + 1 ≤ R.frames) (h2 : 709 ≤ R.locals) : xw R yX12_small w_X12_small GT cX12_small 3 (some .int) rm_X12_small 1 := ⟨rfl, rfl, rfl, h1, h2, ⟨by decide, by decide⟩, by decide +kernel⟩
theorem c_X12_small (E : ET) (hE : EO E) (t : Nat) (ht1 : kd t = 12) (ht2 : AL E t) (x1 : Int32) (σ : HS) (hn : f_X12_small t x1 σ ≠ none) : CoI E yX12_small w_X12_small rm_X12_small [.ref (E.2.2.1 t), .int x1] σ (f_X12_small t x1 σ) := CoI.of (lv := [(0, .ref (E.2.2.1 t)), (1, .int x1)]) hE (plainFor_of_name (by decide)) rfl (Nat.le_of_ble_eq_true rfl) rfl (fun F hC hO hR => k_X12_small_0 hC hO hR hn t ht1 ht2 x1 σ rfl)
def rm_X12_whyFrom (i : Nat) : Room := { frames := 6 + i, cells := 0, slots := 0, locals := 214 + i * 38 }
theorem xk_X12_whyFrom (i : Nat) (R : Room) (h1 : (rm_X12_whyFrom i).frames + 1 ≤ R.frames) (h2 : 38 + (rm_X12_whyFrom i).locals ≤ R.locals) : xw R yX12_whyFrom w_X12_whyFrom GT cX12_whyFrom 7 (some .boolean) (rm_X12_whyFrom i) 5 := ⟨rfl, rfl, rfl, h1, h2, ⟨by decide, by decide⟩, by decide +kernel⟩
theorem wc_X12_whyFrom : Cond.code yX12_whyFrom cX12_whyFrom 7 (some .boolean) ∈ GT := gtr_51 _ (List.mem_of_getElem? (i := 23) rfl)
theorem gc_X12_373 : GoodIn GT (wsV RX12 373 RX12 yX12_whyFrom w_X12_whyFrom) := gi_V (gtr_51 _ (List.mem_of_getElem? (i := 20) rfl)) (gtr_51 _ (List.mem_of_getElem? (i := 21) rfl)) (gtr_51 _ (List.mem_of_getElem? (i := 22) rfl)) (gtr_1 _ (List.mem_of_getElem? (i := 5) rfl)) wc_X12_whyFrom
set_option maxHeartbeats 4000000 in
set_option maxRecDepth 100000 in
theorem k_X12_whyFrom_93 {E : ET} {F : FT} {fo : Option (Int32 × HS)} {d : Nat} (hC : Cx E F 7 cX12_whyFrom RX12 GT) (hO : Ro F (rm_X12_whyFrom (1 * d + 1))) (hR : RI E F .boolean fo) (hf : fo ≠ none) (rc : Nat → Int32 → Int32 → Int32 → Int32 → Int32 → HS → Option (Int32 × HS)) (hrc : ∀ (t : Nat) (_ : kd t = 12) (_ : AL E t) (x1 : Int32) (x2 : Int32) (x3 : Int32) (x4 : Int32) (x5 : Int32) (σ : HS), rc t x1 x2 x3 x4 x5 σ ≠ none → CoI E yX12_whyFrom w_X12_whyFrom (rm_X12_whyFrom (1 * d)) [.ref (E.2.2.1 t), .int x1, .int x2, .int x3, .int x4, .int x5] σ (rc t x1 x2 x3 x4 x5 σ)) (t : Nat) (ht1 : kd t = 12) (ht2 : AL E t) (x1 : Int32) (x3 : Int32) (x4 : Int32) (x5 : Int32) (x6 : Int32) (r47 : Int32 → HS → Option (Int32 × HS)) (h47 : ∀ (x6 : Int32) (σ : HS), r47 x6 σ = fo → G E F 47 [(0, .ref (E.2.2.1 t)), (1, .int x1), (3, .int x3), (4, .int x4), (5, .int x5), (6, .int x6)] [] σ) (σ : HS) (h : f_X12_whyFrom_93 rc r47 t x1 x3 x4 x5 x6 σ = fo) : G E F 93 [(0, .ref (E.2.2.1 t)), (1, .int x1), (3, .int x3), (4, .int x4), (5, .int x5), (6, .int x6)] [] σ := by
    refine g_iinc (v := x6 + 1) (lv' := [(6, .int (x6 + 1)), (0, .ref (E.2.2.1 t)), (1, .int x1), (3, .int x3), (4, .int x4), (5, .int x5)]) hC dX12_whyFrom_93 5 rfl rfl (by decide) rfl ?_
    refine g_goto (tgt := 47) hC dX12_whyFrom_96 (by decide) ?_
    exact g_sub [1, 2, 3, 4, 5, 0] rfl (h47 (x6 + 1) σ h)
set_option maxHeartbeats 4000000 in
set_option maxRecDepth 100000 in
theorem k_X12_whyFrom_47 {E : ET} {F : FT} {fo : Option (Int32 × HS)} {d : Nat} (hC : Cx E F 7 cX12_whyFrom RX12 GT) (hO : Ro F (rm_X12_whyFrom (1 * d + 1))) (hR : RI E F .boolean fo) (hf : fo ≠ none) (rc : Nat → Int32 → Int32 → Int32 → Int32 → Int32 → HS → Option (Int32 × HS)) (hrc : ∀ (t : Nat) (_ : kd t = 12) (_ : AL E t) (x1 : Int32) (x2 : Int32) (x3 : Int32) (x4 : Int32) (x5 : Int32) (σ : HS), rc t x1 x2 x3 x4 x5 σ ≠ none → CoI E yX12_whyFrom w_X12_whyFrom (rm_X12_whyFrom (1 * d)) [.ref (E.2.2.1 t), .int x1, .int x2, .int x3, .int x4, .int x5] σ (rc t x1 x2 x3 x4 x5 σ)) (t : Nat) (ht1 : kd t = 12) (ht2 : AL E t) (x1 : Int32) (x3 : Int32) (x4 : Int32) (x5 : Int32) : ∀ (n : Nat) (x6 : Int32) (σ : HS), f_X12_whyFrom_47 rc t x1 x3 x4 x5 n x6 σ = fo → G E F 47 [(0, .ref (E.2.2.1 t)), (1, .int x1), (3, .int x3), (4, .int x4), (5, .int x5), (6, .int x6)] [] σ := by
  intro n
  induction n with
  | zero =>
    intro x6 σ h
    exact absurd (h.symm.trans rfl) hf
  | succ n ih =>
    intro x6 σ h
    refine g_iload hC dX12_whyFrom_47 5 rfl ?_
    refine g_aload_n hC dX12_whyFrom_49 rfl 0 rfl ?_
    refine g_getR (cj := 14) (k := 13) hC cr12 ui_12 ht1 ht2 (by decide) fl_X12_79 rfl rfl dX12_whyFrom_50 h hf (fun a1 ea1 ka1 na1 h => ?_)
    refine g_iconst (v := 0) hC dX12_whyFrom_53 (by decide) ?_
    refine g_iald hC ka1 na1 dX12_whyFrom_54 h hf (fun h => ?_)
    refine g_icmp_ge (tgt := 99) hC dX12_whyFrom_55 (by decide) h (fun c55 h => ?_) (fun c55 h => ?_)
    · refine g_iconst (v := 0) hC dX12_whyFrom_99 (by decide) ?_
      exact g_iret hC hR dX12_whyFrom_100 rfl h
    · refine g_aload_n hC dX12_whyFrom_58 rfl 0 rfl ?_
      refine g_iload hC dX12_whyFrom_59 5 rfl ?_
      obtain ⟨q2, hq2, h⟩ := bd_of h hf
      refine g_cVI (As := [.int x6]) hC hO (c_X12_isHeard _ hC.2.2.2.2.2.2.1 t ht1 ht2 x6 σ (nn_of hq2)) gc_X12_270 (xk_X12_isHeard _ (by simp only [rm_X12_whyFrom]; omega) (by simp only [rm_X12_whyFrom]; omega)) cr12 ht1 ht2 rfl (Nat.le_of_ble_eq_true rfl) dX12_whyFrom_61 hq2 ?_
      refine g_if_eq (tgt := 93) hC dX12_whyFrom_64 (by decide) h (fun c64 h => ?_) (fun c64 h => ?_)
      · exact g_sub [0, 1, 2, 3, 4, 5] rfl (k_X12_whyFrom_93 hC hO hR hf rc hrc t ht1 ht2 x1 x3 x4 x5 x6 (f_X12_whyFrom_47 rc t x1 x3 x4 x5 n) ih q2.2 h)
      · refine g_aload_n hC dX12_whyFrom_67 rfl 0 rfl ?_
        refine g_iload_n hC dX12_whyFrom_68 rfl 1 rfl ?_
        refine g_iconst (v := 1) hC dX12_whyFrom_69 (by decide) ?_
        refine g_isub hC dX12_whyFrom_70 ?_
        refine g_iload hC dX12_whyFrom_71 5 rfl ?_
        refine g_iconst (v := 1) hC dX12_whyFrom_73 (by decide) ?_
        refine g_iadd hC dX12_whyFrom_74 ?_
        refine g_iload_n hC dX12_whyFrom_75 rfl 2 rfl ?_
        refine g_iconst (v := 1) hC dX12_whyFrom_76 (by decide) ?_
        refine g_iload hC dX12_whyFrom_77 5 rfl ?_
        refine g_ishl hC dX12_whyFrom_79 ?_
        refine g_ior hC dX12_whyFrom_80 ?_
        refine g_iload hC dX12_whyFrom_81 3 rfl ?_
        refine g_iload hC dX12_whyFrom_83 4 rfl ?_
        obtain ⟨q3, hq3, h⟩ := bd_of h hf
        refine g_cVI (As := [.int (x1 - 1), .int (x6 + 1), .int (x3 ||| ((1 : Int32) <<< (x6 &&& 31))), .int x4, .int x5]) hC hO (hrc t ht1 ht2 (x1 - 1) (x6 + 1) (x3 ||| ((1 : Int32) <<< (x6 &&& 31))) x4 x5 q2.2 (nn_of hq3)) gc_X12_373 (xk_X12_whyFrom (1 * d) _ (by simp only [rm_X12_whyFrom]; omega) (by simp only [rm_X12_whyFrom]; omega)) cr12 ht1 ht2 rfl (Nat.le_of_ble_eq_true rfl) dX12_whyFrom_85 hq3 ?_
        refine g_if_eq (tgt := 93) hC dX12_whyFrom_88 (by decide) h (fun c88 h => ?_) (fun c88 h => ?_)
        · exact g_sub [0, 1, 2, 3, 4, 5] rfl (k_X12_whyFrom_93 hC hO hR hf rc hrc t ht1 ht2 x1 x3 x4 x5 x6 (f_X12_whyFrom_47 rc t x1 x3 x4 x5 n) ih q3.2 h)
        · refine g_iconst (v := 1) hC dX12_whyFrom_91 (by decide) ?_
          exact g_iret hC hR dX12_whyFrom_92 rfl h
set_option maxHeartbeats 4000000 in
set_option maxRecDepth 100000 in
theorem k_X12_whyFrom_38 {E : ET} {F : FT} {fo : Option (Int32 × HS)} {d : Nat} (hC : Cx E F 7 cX12_whyFrom RX12 GT) (hO : Ro F (rm_X12_whyFrom (1 * d + 1))) (hR : RI E F .boolean fo) (hf : fo ≠ none) (rc : Nat → Int32 → Int32 → Int32 → Int32 → Int32 → HS → Option (Int32 × HS)) (hrc : ∀ (t : Nat) (_ : kd t = 12) (_ : AL E t) (x1 : Int32) (x2 : Int32) (x3 : Int32) (x4 : Int32) (x5 : Int32) (σ : HS), rc t x1 x2 x3 x4 x5 σ ≠ none → CoI E yX12_whyFrom w_X12_whyFrom (rm_X12_whyFrom (1 * d)) [.ref (E.2.2.1 t), .int x1, .int x2, .int x3, .int x4, .int x5] σ (rc t x1 x2 x3 x4 x5 σ)) (x6 : Int32) (s0 : Int32) (s1 : Nat) (hs1a : kd s1 = 12) (hs1b : AL E s1) (σ : HS) (h : f_X12_whyFrom_38 rc x6 s0 s1 σ = fo) : G E F 38 [(6, .int x6)] [.int s0, .ref (E.2.2.1 s1)] σ := by
    refine g_putI (k := 36) hC cr12 ui_12 tyX12_ok nmX12 hs1a hs1b (by decide) fl_X12_367 rfl rfl rfl rfl dX12_whyFrom_38 ?_
    refine g_iload hC dX12_whyFrom_41 0 rfl ?_
    obtain ⟨hz, h⟩ := zr_of h hf
    exact g_iret hC hR dX12_whyFrom_43 hz h
set_option maxHeartbeats 4000000 in
set_option maxRecDepth 100000 in
theorem k_X12_whyFrom_0 {E : ET} {F : FT} {fo : Option (Int32 × HS)} {d : Nat} (hC : Cx E F 7 cX12_whyFrom RX12 GT) (hO : Ro F (rm_X12_whyFrom (1 * d + 1))) (hR : RI E F .boolean fo) (hf : fo ≠ none) (rc : Nat → Int32 → Int32 → Int32 → Int32 → Int32 → HS → Option (Int32 × HS)) (hrc : ∀ (t : Nat) (_ : kd t = 12) (_ : AL E t) (x1 : Int32) (x2 : Int32) (x3 : Int32) (x4 : Int32) (x5 : Int32) (σ : HS), rc t x1 x2 x3 x4 x5 σ ≠ none → CoI E yX12_whyFrom w_X12_whyFrom (rm_X12_whyFrom (1 * d)) [.ref (E.2.2.1 t), .int x1, .int x2, .int x3, .int x4, .int x5] σ (rc t x1 x2 x3 x4 x5 σ)) (t : Nat) (ht1 : kd t = 12) (ht2 : AL E t) (x1 : Int32) (x2 : Int32) (x3 : Int32) (x4 : Int32) (x5 : Int32) (σ : HS) (h : f_X12_whyFrom_0 rc t x1 x2 x3 x4 x5 σ = fo) : G E F 0 [(0, .ref (E.2.2.1 t)), (1, .int x1), (2, .int x2), (3, .int x3), (4, .int x4), (5, .int x5)] [] σ := by
    refine g_iload_n hC dX12_whyFrom_0 rfl 1 rfl ?_
    refine g_if_ne (tgt := 44) hC dX12_whyFrom_1 (by decide) h (fun c1 h => ?_) (fun c1 h => ?_)
    · refine g_iload_n hC dX12_whyFrom_44 rfl 2 rfl ?_
      refine g_istore (lv' := [(6, .int x2), (0, .ref (E.2.2.1 t)), (1, .int x1), (2, .int x2), (3, .int x3), (4, .int x4), (5, .int x5)]) hC dX12_whyFrom_45 (by decide) rfl ?_
      exact g_sub [1, 2, 4, 5, 6, 0] rfl (k_X12_whyFrom_47 hC hO hR hf rc hrc t ht1 ht2 x1 x3 x4 x5 FU x2 σ h)
    · refine g_aload_n hC dX12_whyFrom_4 rfl 0 rfl ?_
      refine g_iload_n hC dX12_whyFrom_5 rfl 3 rfl ?_
      obtain ⟨q1, hq1, h⟩ := bd_of h hf
      refine g_cVV (As := [.int x3]) hC hO (c_X12_laysRows _ hC.2.2.2.2.2.2.1 t ht1 ht2 x3 σ (nn_of hq1)) gc_X12_298 (xk_X12_laysRows _ (by simp only [rm_X12_whyFrom]; omega) (by simp only [rm_X12_whyFrom]; omega)) cr12 ht1 ht2 rfl (Nat.le_of_ble_eq_true rfl) dX12_whyFrom_6 hq1 ?_
      refine g_aload_n hC dX12_whyFrom_9 rfl 0 rfl ?_
      obtain ⟨q2, hq2, h⟩ := bd_of h hf
      refine g_cVV (As := []) hC hO (c_X12_findCorners _ hC.2.2.2.2.2.2.1 t ht1 ht2 q1 (nn_of hq2)) gc_X12_301 (xk_X12_findCorners _ (by simp only [rm_X12_whyFrom]; omega) (by simp only [rm_X12_whyFrom]; omega)) cr12 ht1 ht2 rfl (Nat.le_of_ble_eq_true rfl) dX12_whyFrom_10 hq2 ?_
      refine g_aload_n hC dX12_whyFrom_13 rfl 0 rfl ?_
      refine g_iload hC dX12_whyFrom_14 4 rfl ?_
      refine g_iload hC dX12_whyFrom_16 5 rfl ?_
      refine g_iconst (v := 0) hC dX12_whyFrom_18 (by decide) ?_
      obtain ⟨q3, hq3, h⟩ := bd_of h hf
      refine g_cVI (As := [.int x4, .int x5, .int 0]) hC hO (c_X12_isBetter _ hC.2.2.2.2.2.2.1 t ht1 ht2 x4 x5 0 q2 (nn_of hq3)) gc_X12_323 (xk_X12_isBetter _ (by simp only [rm_X12_whyFrom]; omega) (by simp only [rm_X12_whyFrom]; omega)) cr12 ht1 ht2 rfl (Nat.le_of_ble_eq_true rfl) dX12_whyFrom_19 hq3 ?_
      refine g_istore (lv' := [(6, .int q3.1), (0, .ref (E.2.2.1 t)), (1, .int x1), (2, .int x2), (3, .int x3), (4, .int x4), (5, .int x5)]) hC dX12_whyFrom_22 (by decide) rfl ?_
      refine g_aload_n hC dX12_whyFrom_24 rfl 1 rfl ?_
      refine g_iload hC dX12_whyFrom_25 0 rfl ?_
      refine g_if_eq (tgt := 34) hC dX12_whyFrom_27 (by decide) h (fun c27 h => ?_) (fun c27 h => ?_)
      · refine g_aload_n hC dX12_whyFrom_34 rfl 1 rfl ?_
        refine g_getI (k := 36) hC cr12 ui_12 ht1 ht2 (by decide) fl_X12_367 rfl rfl dX12_whyFrom_35 ?_
        exact g_sub [0] rfl (k_X12_whyFrom_38 hC hO hR hf rc hrc q3.1 (q3.2.1 t 36) t ht1 ht2 q3.2 h)
      · refine g_iload_n hC dX12_whyFrom_30 rfl 4 rfl ?_
        refine g_goto (tgt := 38) hC dX12_whyFrom_31 (by decide) ?_
        exact g_sub [0] rfl (k_X12_whyFrom_38 hC hO hR hf rc hrc q3.1 x3 t ht1 ht2 q3.2 h)
theorem c_X12_whyFrom (E : ET) (hE : EO E) : ∀ (d : Nat) (t : Nat) (ht1 : kd t = 12) (ht2 : AL E t) (x1 : Int32) (x2 : Int32) (x3 : Int32) (x4 : Int32) (x5 : Int32) (σ : HS), f_X12_whyFrom d t x1 x2 x3 x4 x5 σ ≠ none → CoI E yX12_whyFrom w_X12_whyFrom (rm_X12_whyFrom (1 * d)) [.ref (E.2.2.1 t), .int x1, .int x2, .int x3, .int x4, .int x5] σ (f_X12_whyFrom d t x1 x2 x3 x4 x5 σ) := by
  intro d
  induction d with
  | zero => intro t ht1 ht2 x1 x2 x3 x4 x5 σ hn; exact absurd rfl hn
  | succ d ih =>
    intro t ht1 ht2 x1 x2 x3 x4 x5 σ hn
    exact CoI.of (lv := [(0, .ref (E.2.2.1 t)), (1, .int x1), (2, .int x2), (3, .int x3), (4, .int x4), (5, .int x5)]) hE (plainFor_of_name (by decide)) rfl (Nat.le_of_ble_eq_true rfl) rfl (fun F hC hO hR => k_X12_whyFrom_0 hC hO hR hn (f_X12_whyFrom d) ih t ht1 ht2 x1 x2 x3 x4 x5 σ rfl)
def rm_X12_areTwo : Room := { frames := 3, cells := 0, slots := 0, locals := 102 }
set_option maxHeartbeats 4000000 in
set_option maxRecDepth 100000 in
theorem k_X12_areTwo_46 {E : ET} {F : FT} {fo : Option (Int32 × HS)} (hC : Cx E F 3 cX12_areTwo RX12 GT) (hO : Ro F rm_X12_areTwo) (hR : RI E F .boolean fo) (hf : fo ≠ none) (s0 : Int32) (σ : HS) (h : f_X12_areTwo_46 s0 σ = fo) : G E F 46 [] [.int s0] σ := by
    obtain ⟨hz, h⟩ := zr_of h hf
    exact g_iret hC hR dX12_areTwo_46 hz h
set_option maxHeartbeats 4000000 in
set_option maxRecDepth 100000 in
theorem k_X12_areTwo_45 {E : ET} {F : FT} {fo : Option (Int32 × HS)} (hC : Cx E F 3 cX12_areTwo RX12 GT) (hO : Ro F rm_X12_areTwo) (hR : RI E F .boolean fo) (hf : fo ≠ none) (σ : HS) (h : f_X12_areTwo_45 σ = fo) : G E F 45 [] [] σ := by
    refine g_iconst (v := 0) hC dX12_areTwo_45 (by decide) ?_
    exact g_sub [] rfl (k_X12_areTwo_46 hC hO hR hf 0 σ h)
set_option maxHeartbeats 4000000 in
set_option maxRecDepth 100000 in
theorem k_X12_areTwo_0 {E : ET} {F : FT} {fo : Option (Int32 × HS)} (hC : Cx E F 3 cX12_areTwo RX12 GT) (hO : Ro F rm_X12_areTwo) (hR : RI E F .boolean fo) (hf : fo ≠ none) (t : Nat) (ht1 : kd t = 12) (ht2 : AL E t) (x1 : Int32) (x2 : Int32) (σ : HS) (h : f_X12_areTwo t x1 x2 σ = fo) : G E F 0 [(0, .ref (E.2.2.1 t)), (1, .int x1), (2, .int x2)] [] σ := by
    refine g_iload_n hC dX12_areTwo_0 rfl 1 rfl ?_
    refine g_iconst (v := 0) hC dX12_areTwo_1 (by decide) ?_
    refine g_bipush (v := 7) hC dX12_areTwo_2 (by decide) ?_
    obtain ⟨q1, hq1, h⟩ := bd_of h hf
    refine g_cSI (As := [.int x1, .int 0, .int 7]) hC hO (c_X12_within _ hC.2.2.2.2.2.2.1 x1 0 7 σ (nn_of hq1)) gc_X12_213 (xk_X12_within _ (Nat.le_of_ble_eq_true rfl) (Nat.le_of_ble_eq_true rfl)) rfl (Nat.le_of_ble_eq_true rfl) dX12_areTwo_4 hq1 ?_
    refine g_if_eq (tgt := 45) hC dX12_areTwo_7 (by decide) h (fun c7 h => ?_) (fun c7 h => ?_)
    · exact g_sub [] rfl (k_X12_areTwo_45 hC hO hR hf q1.2 h)
    · refine g_iload_n hC dX12_areTwo_10 rfl 2 rfl ?_
      refine g_iconst (v := 0) hC dX12_areTwo_11 (by decide) ?_
      refine g_bipush (v := 7) hC dX12_areTwo_12 (by decide) ?_
      obtain ⟨q2, hq2, h⟩ := bd_of h hf
      refine g_cSI (As := [.int x2, .int 0, .int 7]) hC hO (c_X12_within _ hC.2.2.2.2.2.2.1 x2 0 7 q1.2 (nn_of hq2)) gc_X12_213 (xk_X12_within _ (Nat.le_of_ble_eq_true rfl) (Nat.le_of_ble_eq_true rfl)) rfl (Nat.le_of_ble_eq_true rfl) dX12_areTwo_14 hq2 ?_
      refine g_if_eq (tgt := 45) hC dX12_areTwo_17 (by decide) h (fun c17 h => ?_) (fun c17 h => ?_)
      · exact g_sub [] rfl (k_X12_areTwo_45 hC hO hR hf q2.2 h)
      · refine g_iload_n hC dX12_areTwo_20 rfl 1 rfl ?_
        refine g_iload_n hC dX12_areTwo_21 rfl 2 rfl ?_
        refine g_icmp_eq (tgt := 45) hC dX12_areTwo_22 (by decide) h (fun c22 h => ?_) (fun c22 h => ?_)
        · exact g_sub [] rfl (k_X12_areTwo_45 hC hO hR hf q2.2 h)
        · refine g_aload_n hC dX12_areTwo_25 rfl 0 rfl ?_
          refine g_iload_n hC dX12_areTwo_26 rfl 1 rfl ?_
          obtain ⟨q3, hq3, h⟩ := bd_of h hf
          refine g_cVI (As := [.int x1]) hC hO (c_X12_isIn _ hC.2.2.2.2.2.2.1 t ht1 ht2 x1 q2.2 (nn_of hq3)) gc_X12_223 (xk_X12_isIn _ (Nat.le_of_ble_eq_true rfl) (Nat.le_of_ble_eq_true rfl)) cr12 ht1 ht2 rfl (Nat.le_of_ble_eq_true rfl) dX12_areTwo_27 hq3 ?_
          refine g_if_eq (tgt := 45) hC dX12_areTwo_30 (by decide) h (fun c30 h => ?_) (fun c30 h => ?_)
          · exact g_sub [] rfl (k_X12_areTwo_45 hC hO hR hf q3.2 h)
          · refine g_aload_n hC dX12_areTwo_33 rfl 0 rfl ?_
            refine g_iload_n hC dX12_areTwo_34 rfl 2 rfl ?_
            obtain ⟨q4, hq4, h⟩ := bd_of h hf
            refine g_cVI (As := [.int x2]) hC hO (c_X12_isIn _ hC.2.2.2.2.2.2.1 t ht1 ht2 x2 q3.2 (nn_of hq4)) gc_X12_223 (xk_X12_isIn _ (Nat.le_of_ble_eq_true rfl) (Nat.le_of_ble_eq_true rfl)) cr12 ht1 ht2 rfl (Nat.le_of_ble_eq_true rfl) dX12_areTwo_35 hq4 ?_
            refine g_if_eq (tgt := 45) hC dX12_areTwo_38 (by decide) h (fun c38 h => ?_) (fun c38 h => ?_)
            · exact g_sub [] rfl (k_X12_areTwo_45 hC hO hR hf q4.2 h)
            · refine g_iconst (v := 1) hC dX12_areTwo_41 (by decide) ?_
              refine g_goto (tgt := 46) hC dX12_areTwo_42 (by decide) ?_
              exact g_sub [] rfl (k_X12_areTwo_46 hC hO hR hf 1 q4.2 h)
theorem xk_X12_areTwo (R : Room) (h1 : 3 + 1 ≤ R.frames) (h2 : 136 ≤ R.locals) : xw R yX12_areTwo w_X12_areTwo GT cX12_areTwo 3 (some .boolean) rm_X12_areTwo 2 := ⟨rfl, rfl, rfl, h1, h2, ⟨by decide, by decide⟩, by decide +kernel⟩
theorem c_X12_areTwo (E : ET) (hE : EO E) (t : Nat) (ht1 : kd t = 12) (ht2 : AL E t) (x1 : Int32) (x2 : Int32) (σ : HS) (hn : f_X12_areTwo t x1 x2 σ ≠ none) : CoI E yX12_areTwo w_X12_areTwo rm_X12_areTwo [.ref (E.2.2.1 t), .int x1, .int x2] σ (f_X12_areTwo t x1 x2 σ) := CoI.of (lv := [(0, .ref (E.2.2.1 t)), (1, .int x1), (2, .int x2)]) hE (plainFor_of_name (by decide)) rfl (Nat.le_of_ble_eq_true rfl) rfl (fun F hC hO hR => k_X12_areTwo_0 hC hO hR hn t ht1 ht2 x1 x2 σ rfl)
def rm_X12_why : Room := { frames := 19, cells := 0, slots := 0, locals := 708 }
theorem wc_X12_areTwo : Cond.code yX12_areTwo cX12_areTwo 3 (some .boolean) ∈ GT := gtr_37 _ (List.mem_of_getElem? (i := 15) rfl)
theorem gc_X12_377 : GoodIn GT (wsV RX12 377 RX12 yX12_areTwo w_X12_areTwo) := gi_V (gtr_37 _ (List.mem_of_getElem? (i := 12) rfl)) (gtr_37 _ (List.mem_of_getElem? (i := 13) rfl)) (gtr_37 _ (List.mem_of_getElem? (i := 14) rfl)) (gtr_1 _ (List.mem_of_getElem? (i := 5) rfl)) wc_X12_areTwo
set_option maxHeartbeats 4000000 in
set_option maxRecDepth 100000 in
theorem k_X12_why_40 {E : ET} {F : FT} {fo : Option (Int32 × HS)} (hC : Cx E F 5 cX12_why RX12 GT) (hO : Ro F rm_X12_why) (hR : RI E F .int fo) (hf : fo ≠ none) (σ : HS) (h : f_X12_why_40 σ = fo) : G E F 40 [] [] σ := by
    refine g_iconst (v := (-1)) hC dX12_why_40 (by decide) ?_
    exact g_iret hC hR dX12_why_41 rfl h
set_option maxHeartbeats 4000000 in
set_option maxRecDepth 100000 in
theorem k_X12_why_77 {E : ET} {F : FT} {fo : Option (Int32 × HS)} (hC : Cx E F 5 cX12_why RX12 GT) (hO : Ro F rm_X12_why) (hR : RI E F .int fo) (hf : fo ≠ none) (s0 : Int32) (σ : HS) (h : f_X12_why_77 s0 σ = fo) : G E F 77 [] [.int s0] σ := by
    exact g_iret hC hR dX12_why_77 rfl h
set_option maxHeartbeats 4000000 in
set_option maxRecDepth 100000 in
theorem k_X12_why_45 {E : ET} {F : FT} {fo : Option (Int32 × HS)} (hC : Cx E F 5 cX12_why RX12 GT) (hO : Ro F rm_X12_why) (hR : RI E F .int fo) (hf : fo ≠ none) (t : Nat) (ht1 : kd t = 12) (ht2 : AL E t) (x1 : Int32) (x2 : Int32) (x3 : Int32) : ∀ (n : Nat) (x4 : Int32) (σ : HS), f_X12_why_45 t x1 x2 x3 n x4 σ = fo → G E F 45 [(0, .ref (E.2.2.1 t)), (1, .int x1), (2, .int x2), (3, .int x3), (4, .int x4)] [] σ := by
  intro n
  induction n with
  | zero =>
    intro x4 σ h
    exact absurd (h.symm.trans rfl) hf
  | succ n ih =>
    intro x4 σ h
    refine g_iload hC dX12_why_45 4 rfl ?_
    refine g_iconst (v := 3) hC dX12_why_47 (by decide) ?_
    refine g_icmp_gt (tgt := 84) hC dX12_why_48 (by decide) h (fun c48 h => ?_) (fun c48 h => ?_)
    · refine g_iconst (v := (-1)) hC dX12_why_84 (by decide) ?_
      exact g_iret hC hR dX12_why_85 rfl h
    · refine g_aload_n hC dX12_why_51 rfl 0 rfl ?_
      refine g_iload hC dX12_why_52 4 rfl ?_
      refine g_iconst (v := 0) hC dX12_why_54 (by decide) ?_
      refine g_iconst (v := 0) hC dX12_why_55 (by decide) ?_
      refine g_iload_n hC dX12_why_56 rfl 1 rfl ?_
      refine g_iload_n hC dX12_why_57 rfl 2 rfl ?_
      obtain ⟨q1, hq1, h⟩ := bd_of h hf
      refine g_cVI (As := [.int x4, .int 0, .int 0, .int x1, .int x2]) hC hO (c_X12_whyFrom _ hC.2.2.2.2.2.2.1 DEP t ht1 ht2 x4 0 0 x1 x2 σ (nn_of hq1)) gc_X12_373 (xk_X12_whyFrom (1 * DEP) _ (Nat.le_of_ble_eq_true rfl) (Nat.le_of_ble_eq_true rfl)) cr12 ht1 ht2 rfl (Nat.le_of_ble_eq_true rfl) dX12_why_58 hq1 ?_
      refine g_if_eq (tgt := 78) hC dX12_why_61 (by decide) h (fun c61 h => ?_) (fun c61 h => ?_)
      · refine g_iinc (v := x4 + 1) (lv' := [(4, .int (x4 + 1)), (0, .ref (E.2.2.1 t)), (1, .int x1), (2, .int x2), (3, .int x3)]) hC dX12_why_78 4 rfl rfl (by decide) rfl ?_
        refine g_goto (tgt := 45) hC dX12_why_81 (by decide) ?_
        exact g_sub [1, 2, 3, 4, 0] rfl (ih (x4 + 1) q1.2 h)
      · refine g_iload_n hC dX12_why_64 rfl 3 rfl ?_
        refine g_if_ne (tgt := 73) hC dX12_why_65 (by decide) h (fun c65 h => ?_) (fun c65 h => ?_)
        · refine g_aload_n hC dX12_why_73 rfl 0 rfl ?_
          refine g_getI (k := 36) hC cr12 ui_12 ht1 ht2 (by decide) fl_X12_367 rfl rfl dX12_why_74 ?_
          exact g_sub [] rfl (k_X12_why_77 hC hO hR hf (q1.2.1 t 36) q1.2 h)
        · refine g_iload hC dX12_why_68 4 rfl ?_
          refine g_goto (tgt := 77) hC dX12_why_70 (by decide) ?_
          exact g_sub [] rfl (k_X12_why_77 hC hO hR hf x4 q1.2 h)
set_option maxHeartbeats 4000000 in
set_option maxRecDepth 100000 in
theorem k_X12_why_0 {E : ET} {F : FT} {fo : Option (Int32 × HS)} (hC : Cx E F 5 cX12_why RX12 GT) (hO : Ro F rm_X12_why) (hR : RI E F .int fo) (hf : fo ≠ none) (t : Nat) (ht1 : kd t = 12) (ht2 : AL E t) (x1 : Int32) (x2 : Int32) (x3 : Int32) (σ : HS) (h : f_X12_why t x1 x2 x3 σ = fo) : G E F 0 [(0, .ref (E.2.2.1 t)), (1, .int x1), (2, .int x2), (3, .int x3)] [] σ := by
    refine g_aload_n hC dX12_why_0 rfl 0 rfl ?_
    refine g_iconst (v := 0) hC dX12_why_1 (by decide) ?_
    refine g_putI (k := 0) hC cr12 ui_12 tyX12_ok nmX12 ht1 ht2 (by decide) fl_X12_1 rfl rfl rfl rfl dX12_why_2 ?_
    refine g_aload_n hC dX12_why_5 rfl 0 rfl ?_
    refine g_iload_n hC dX12_why_6 rfl 1 rfl ?_
    refine g_iload_n hC dX12_why_7 rfl 2 rfl ?_
    obtain ⟨q1, hq1, h⟩ := bd_of h hf
    refine g_cVI (As := [.int x1, .int x2]) hC hO (c_X12_areTwo _ hC.2.2.2.2.2.2.1 t ht1 ht2 x1 x2 (sI σ t 0 0) (nn_of hq1)) gc_X12_377 (xk_X12_areTwo _ (Nat.le_of_ble_eq_true rfl) (Nat.le_of_ble_eq_true rfl)) cr12 ht1 ht2 rfl (Nat.le_of_ble_eq_true rfl) dX12_why_8 hq1 ?_
    refine g_if_eq (tgt := 40) hC dX12_why_11 (by decide) h (fun c11 h => ?_) (fun c11 h => ?_)
    · exact g_sub [] rfl (k_X12_why_40 hC hO hR hf q1.2 h)
    · refine g_iload_n hC dX12_why_14 rfl 3 rfl ?_
      refine g_iconst (v := 0) hC dX12_why_15 (by decide) ?_
      refine g_iconst (v := 1) hC dX12_why_16 (by decide) ?_
      obtain ⟨q2, hq2, h⟩ := bd_of h hf
      refine g_cSI (As := [.int x3, .int 0, .int 1]) hC hO (c_X12_within _ hC.2.2.2.2.2.2.1 x3 0 1 q1.2 (nn_of hq2)) gc_X12_213 (xk_X12_within _ (Nat.le_of_ble_eq_true rfl) (Nat.le_of_ble_eq_true rfl)) rfl (Nat.le_of_ble_eq_true rfl) dX12_why_17 hq2 ?_
      refine g_if_eq (tgt := 40) hC dX12_why_20 (by decide) h (fun c20 h => ?_) (fun c20 h => ?_)
      · exact g_sub [] rfl (k_X12_why_40 hC hO hR hf q2.2 h)
      · refine g_aload_n hC dX12_why_23 rfl 0 rfl ?_
        obtain ⟨q3, hq3, h⟩ := bd_of h hf
        refine g_cVI (As := []) hC hO (c_X12_findNow _ hC.2.2.2.2.2.2.1 t ht1 ht2 q2.2 (nn_of hq3)) gc_X12_361 (xk_X12_findNow _ (Nat.le_of_ble_eq_true rfl) (Nat.le_of_ble_eq_true rfl)) cr12 ht1 ht2 rfl (Nat.le_of_ble_eq_true rfl) dX12_why_24 hq3 ?_
        refine g_if_eq (tgt := 40) hC dX12_why_27 (by decide) h (fun c27 h => ?_) (fun c27 h => ?_)
        · exact g_sub [] rfl (k_X12_why_40 hC hO hR hf q3.2 h)
        · refine g_aload_n hC dX12_why_30 rfl 0 rfl ?_
          refine g_iload_n hC dX12_why_31 rfl 1 rfl ?_
          refine g_iload_n hC dX12_why_32 rfl 2 rfl ?_
          refine g_iconst (v := 0) hC dX12_why_33 (by decide) ?_
          obtain ⟨q4, hq4, h⟩ := bd_of h hf
          refine g_cVI (As := [.int x1, .int x2, .int 0]) hC hO (c_X12_isBetter _ hC.2.2.2.2.2.2.1 t ht1 ht2 x1 x2 0 q3.2 (nn_of hq4)) gc_X12_323 (xk_X12_isBetter _ (Nat.le_of_ble_eq_true rfl) (Nat.le_of_ble_eq_true rfl)) cr12 ht1 ht2 rfl (Nat.le_of_ble_eq_true rfl) dX12_why_34 hq4 ?_
          refine g_if_ne (tgt := 42) hC dX12_why_37 (by decide) h (fun c37 h => ?_) (fun c37 h => ?_)
          · refine g_iconst (v := 0) hC dX12_why_42 (by decide) ?_
            refine g_istore (lv' := [(4, .int 0), (0, .ref (E.2.2.1 t)), (1, .int x1), (2, .int x2), (3, .int x3)]) hC dX12_why_43 (by decide) rfl ?_
            exact g_sub [1, 2, 3, 4, 0] rfl (k_X12_why_45 hC hO hR hf t ht1 ht2 x1 x2 x3 FU 0 q4.2 h)
          · exact g_sub [] rfl (k_X12_why_40 hC hO hR hf q4.2 h)
theorem xk_X12_why (R : Room) (h1 : 19 + 1 ≤ R.frames) (h2 : 744 ≤ R.locals) : xw R yX12_why w_X12_why GT cX12_why 5 (some .int) rm_X12_why 3 := ⟨rfl, rfl, rfl, h1, h2, ⟨by decide, by decide⟩, by decide +kernel⟩
theorem c_X12_why (E : ET) (hE : EO E) (t : Nat) (ht1 : kd t = 12) (ht2 : AL E t) (x1 : Int32) (x2 : Int32) (x3 : Int32) (σ : HS) (hn : f_X12_why t x1 x2 x3 σ ≠ none) : CoI E yX12_why w_X12_why rm_X12_why [.ref (E.2.2.1 t), .int x1, .int x2, .int x3] σ (f_X12_why t x1 x2 x3 σ) := CoI.of (lv := [(0, .ref (E.2.2.1 t)), (1, .int x1), (2, .int x2), (3, .int x3)]) hE (plainFor_of_name (by decide)) rfl (Nat.le_of_ble_eq_true rfl) rfl (fun F hC hO hR => k_X12_why_0 hC hO hR hn t ht1 ht2 x1 x2 x3 σ rfl)
def rm_X12_beatenFrom (i : Nat) : Room := { frames := 5 + i, cells := 0, slots := 0, locals := 172 + i * 39 }
theorem xk_X12_beatenFrom (i : Nat) (R : Room) (h1 : (rm_X12_beatenFrom i).frames + 1 ≤ R.frames) (h2 : 39 + (rm_X12_beatenFrom i).locals ≤ R.locals) : xw R yX12_beatenFrom w_X12_beatenFrom GT cX12_beatenFrom 8 (some .boolean) (rm_X12_beatenFrom i) 5 := ⟨rfl, rfl, rfl, h1, h2, ⟨by decide, by decide⟩, by decide +kernel⟩
theorem wc_X12_beatenFrom : Cond.code yX12_beatenFrom cX12_beatenFrom 8 (some .boolean) ∈ GT := gtr_45 _ (List.mem_of_getElem? (i := 10) rfl)
theorem gc_X12_380 : GoodIn GT (wsV RX12 380 RX12 yX12_beatenFrom w_X12_beatenFrom) := gi_V (gtr_45 _ (List.mem_of_getElem? (i := 7) rfl)) (gtr_45 _ (List.mem_of_getElem? (i := 8) rfl)) (gtr_45 _ (List.mem_of_getElem? (i := 9) rfl)) (gtr_1 _ (List.mem_of_getElem? (i := 5) rfl)) wc_X12_beatenFrom
set_option maxHeartbeats 4000000 in
set_option maxRecDepth 100000 in
theorem k_X12_beatenFrom_128 {E : ET} {F : FT} {fo : Option (Int32 × HS)} {d : Nat} (hC : Cx E F 8 cX12_beatenFrom RX12 GT) (hO : Ro F (rm_X12_beatenFrom (1 * d + 1))) (hR : RI E F .boolean fo) (hf : fo ≠ none) (rc : Nat → Int32 → Int32 → Int32 → Int32 → Int32 → HS → Option (Int32 × HS)) (hrc : ∀ (t : Nat) (_ : kd t = 12) (_ : AL E t) (x1 : Int32) (x2 : Int32) (x3 : Int32) (x4 : Int32) (x5 : Int32) (σ : HS), rc t x1 x2 x3 x4 x5 σ ≠ none → CoI E yX12_beatenFrom w_X12_beatenFrom (rm_X12_beatenFrom (1 * d)) [.ref (E.2.2.1 t), .int x1, .int x2, .int x3, .int x4, .int x5] σ (rc t x1 x2 x3 x4 x5 σ)) (x6 : Int32) (σ : HS) (h : f_X12_beatenFrom_128 rc x6 σ = fo) : G E F 128 [(6, .int x6)] [] σ := by
    refine g_iload hC dX12_beatenFrom_128 0 rfl ?_
    obtain ⟨hz, h⟩ := zr_of h hf
    exact g_iret hC hR dX12_beatenFrom_130 hz h
set_option maxHeartbeats 4000000 in
set_option maxRecDepth 100000 in
theorem k_X12_beatenFrom_122 {E : ET} {F : FT} {fo : Option (Int32 × HS)} {d : Nat} (hC : Cx E F 8 cX12_beatenFrom RX12 GT) (hO : Ro F (rm_X12_beatenFrom (1 * d + 1))) (hR : RI E F .boolean fo) (hf : fo ≠ none) (rc : Nat → Int32 → Int32 → Int32 → Int32 → Int32 → HS → Option (Int32 × HS)) (hrc : ∀ (t : Nat) (_ : kd t = 12) (_ : AL E t) (x1 : Int32) (x2 : Int32) (x3 : Int32) (x4 : Int32) (x5 : Int32) (σ : HS), rc t x1 x2 x3 x4 x5 σ ≠ none → CoI E yX12_beatenFrom w_X12_beatenFrom (rm_X12_beatenFrom (1 * d)) [.ref (E.2.2.1 t), .int x1, .int x2, .int x3, .int x4, .int x5] σ (rc t x1 x2 x3 x4 x5 σ)) (t : Nat) (ht1 : kd t = 12) (ht2 : AL E t) (x1 : Int32) (x2 : Int32) (x4 : Int32) (x5 : Int32) (x6 : Int32) (x7 : Int32) (r49 : Int32 → Int32 → HS → Option (Int32 × HS)) (h49 : ∀ (x6 : Int32) (x7 : Int32) (σ : HS), r49 x6 x7 σ = fo → G E F 49 [(0, .ref (E.2.2.1 t)), (1, .int x1), (2, .int x2), (4, .int x4), (5, .int x5), (6, .int x6), (7, .int x7)] [] σ) (σ : HS) (h : f_X12_beatenFrom_122 rc r49 t x1 x2 x4 x5 x6 x7 σ = fo) : G E F 122 [(0, .ref (E.2.2.1 t)), (1, .int x1), (2, .int x2), (4, .int x4), (5, .int x5), (6, .int x6), (7, .int x7)] [] σ := by
    refine g_iinc (v := x7 + 1) (lv' := [(7, .int (x7 + 1)), (0, .ref (E.2.2.1 t)), (1, .int x1), (2, .int x2), (4, .int x4), (5, .int x5), (6, .int x6)]) hC dX12_beatenFrom_122 6 rfl rfl (by decide) rfl ?_
    refine g_goto (tgt := 49) hC dX12_beatenFrom_125 (by decide) ?_
    exact g_sub [1, 2, 3, 4, 5, 6, 0] rfl (h49 x6 (x7 + 1) σ h)
set_option maxHeartbeats 4000000 in
set_option maxRecDepth 100000 in
theorem k_X12_beatenFrom_49 {E : ET} {F : FT} {fo : Option (Int32 × HS)} {d : Nat} (hC : Cx E F 8 cX12_beatenFrom RX12 GT) (hO : Ro F (rm_X12_beatenFrom (1 * d + 1))) (hR : RI E F .boolean fo) (hf : fo ≠ none) (rc : Nat → Int32 → Int32 → Int32 → Int32 → Int32 → HS → Option (Int32 × HS)) (hrc : ∀ (t : Nat) (_ : kd t = 12) (_ : AL E t) (x1 : Int32) (x2 : Int32) (x3 : Int32) (x4 : Int32) (x5 : Int32) (σ : HS), rc t x1 x2 x3 x4 x5 σ ≠ none → CoI E yX12_beatenFrom w_X12_beatenFrom (rm_X12_beatenFrom (1 * d)) [.ref (E.2.2.1 t), .int x1, .int x2, .int x3, .int x4, .int x5] σ (rc t x1 x2 x3 x4 x5 σ)) (t : Nat) (ht1 : kd t = 12) (ht2 : AL E t) (x1 : Int32) (x2 : Int32) (x4 : Int32) (x5 : Int32) : ∀ (n : Nat) (x6 : Int32) (x7 : Int32) (σ : HS), f_X12_beatenFrom_49 rc t x1 x2 x4 x5 n x6 x7 σ = fo → G E F 49 [(0, .ref (E.2.2.1 t)), (1, .int x1), (2, .int x2), (4, .int x4), (5, .int x5), (6, .int x6), (7, .int x7)] [] σ := by
  intro n
  induction n with
  | zero =>
    intro x6 x7 σ h
    exact absurd (h.symm.trans rfl) hf
  | succ n ih =>
    intro x6 x7 σ h
    refine g_iload hC dX12_beatenFrom_49 6 rfl ?_
    refine g_bipush (v := 8) hC dX12_beatenFrom_51 (by decide) ?_
    refine g_icmp_ge (tgt := 128) hC dX12_beatenFrom_53 (by decide) h (fun c53 h => ?_) (fun c53 h => ?_)
    · exact g_sub [5] rfl (k_X12_beatenFrom_128 hC hO hR hf rc hrc x6 σ h)
    · refine g_iload hC dX12_beatenFrom_56 5 rfl ?_
      refine g_if_ne (tgt := 128) hC dX12_beatenFrom_58 (by decide) h (fun c58 h => ?_) (fun c58 h => ?_)
      · exact g_sub [5] rfl (k_X12_beatenFrom_128 hC hO hR hf rc hrc x6 σ h)
      · refine g_iload hC dX12_beatenFrom_61 6 rfl ?_
        refine g_iload_n hC dX12_beatenFrom_63 rfl 1 rfl ?_
        refine g_icmp_eq (tgt := 122) hC dX12_beatenFrom_64 (by decide) h (fun c64 h => ?_) (fun c64 h => ?_)
        · exact g_sub [0, 1, 2, 3, 4, 5, 6] rfl (k_X12_beatenFrom_122 hC hO hR hf rc hrc t ht1 ht2 x1 x2 x4 x5 x6 x7 (f_X12_beatenFrom_49 rc t x1 x2 x4 x5 n) ih σ h)
        · refine g_aload_n hC dX12_beatenFrom_67 rfl 0 rfl ?_
          refine g_iload hC dX12_beatenFrom_68 6 rfl ?_
          obtain ⟨q1, hq1, h⟩ := bd_of h hf
          refine g_cVI (As := [.int x7]) hC hO (c_X12_isIn _ hC.2.2.2.2.2.2.1 t ht1 ht2 x7 σ (nn_of hq1)) gc_X12_223 (xk_X12_isIn _ (by simp only [rm_X12_beatenFrom]; omega) (by simp only [rm_X12_beatenFrom]; omega)) cr12 ht1 ht2 rfl (Nat.le_of_ble_eq_true rfl) dX12_beatenFrom_70 hq1 ?_
          refine g_if_eq (tgt := 122) hC dX12_beatenFrom_73 (by decide) h (fun c73 h => ?_) (fun c73 h => ?_)
          · exact g_sub [0, 1, 2, 3, 4, 5, 6] rfl (k_X12_beatenFrom_122 hC hO hR hf rc hrc t ht1 ht2 x1 x2 x4 x5 x6 x7 (f_X12_beatenFrom_49 rc t x1 x2 x4 x5 n) ih q1.2 h)
          · refine g_aload_n hC dX12_beatenFrom_76 rfl 0 rfl ?_
            refine g_iload_n hC dX12_beatenFrom_77 rfl 1 rfl ?_
            refine g_iload hC dX12_beatenFrom_78 6 rfl ?_
            obtain ⟨q2, hq2, h⟩ := bd_of h hf
            refine g_cVV (As := [.int x1, .int x7]) hC hO (c_X12_addsAbove _ hC.2.2.2.2.2.2.1 t ht1 ht2 x1 x7 q1.2 (nn_of hq2)) gc_X12_329 (xk_X12_addsAbove _ (by simp only [rm_X12_beatenFrom]; omega) (by simp only [rm_X12_beatenFrom]; omega)) cr12 ht1 ht2 rfl (Nat.le_of_ble_eq_true rfl) dX12_beatenFrom_80 hq2 ?_
            refine g_aload_n hC dX12_beatenFrom_83 rfl 0 rfl ?_
            refine g_iload hC dX12_beatenFrom_84 4 rfl ?_
            refine g_iconst (v := 1) hC dX12_beatenFrom_86 (by decide) ?_
            refine g_iadd hC dX12_beatenFrom_87 ?_
            obtain ⟨q3, hq3, h⟩ := bd_of h hf
            refine g_cVV (As := [.int (x5 + 1)]) hC hO (c_X12_findMore _ hC.2.2.2.2.2.2.1 t ht1 ht2 (x5 + 1) q2 (nn_of hq3)) gc_X12_332 (xk_X12_findMore _ (by simp only [rm_X12_beatenFrom]; omega) (by simp only [rm_X12_beatenFrom]; omega)) cr12 ht1 ht2 rfl (Nat.le_of_ble_eq_true rfl) dX12_beatenFrom_88 hq3 ?_
            refine g_aload_n hC dX12_beatenFrom_91 rfl 0 rfl ?_
            refine g_iload_n hC dX12_beatenFrom_92 rfl 1 rfl ?_
            refine g_iload_n hC dX12_beatenFrom_93 rfl 2 rfl ?_
            refine g_iconst (v := 1) hC dX12_beatenFrom_94 (by decide) ?_
            refine g_isub hC dX12_beatenFrom_95 ?_
            refine g_iload hC dX12_beatenFrom_96 6 rfl ?_
            refine g_iconst (v := 1) hC dX12_beatenFrom_98 (by decide) ?_
            refine g_iadd hC dX12_beatenFrom_99 ?_
            refine g_iload hC dX12_beatenFrom_100 3 rfl ?_
            refine g_iconst (v := 1) hC dX12_beatenFrom_102 (by decide) ?_
            refine g_iload hC dX12_beatenFrom_103 6 rfl ?_
            refine g_ishl hC dX12_beatenFrom_105 ?_
            refine g_ior hC dX12_beatenFrom_106 ?_
            refine g_iload hC dX12_beatenFrom_107 4 rfl ?_
            refine g_iconst (v := 1) hC dX12_beatenFrom_109 (by decide) ?_
            refine g_iadd hC dX12_beatenFrom_110 ?_
            obtain ⟨q4, hq4, h⟩ := bd_of h hf
            refine g_cVI (As := [.int x1, .int (x2 - 1), .int (x7 + 1), .int (x4 ||| ((1 : Int32) <<< (x7 &&& 31))), .int (x5 + 1)]) hC hO (hrc t ht1 ht2 x1 (x2 - 1) (x7 + 1) (x4 ||| ((1 : Int32) <<< (x7 &&& 31))) (x5 + 1) q3 (nn_of hq4)) gc_X12_380 (xk_X12_beatenFrom (1 * d) _ (by simp only [rm_X12_beatenFrom]; omega) (by simp only [rm_X12_beatenFrom]; omega)) cr12 ht1 ht2 rfl (Nat.le_of_ble_eq_true rfl) dX12_beatenFrom_111 hq4 ?_
            refine g_istore (lv' := [(6, .int q4.1), (0, .ref (E.2.2.1 t)), (1, .int x1), (2, .int x2), (4, .int x4), (5, .int x5), (7, .int x7)]) hC dX12_beatenFrom_114 (by decide) rfl ?_
            refine g_aload_n hC dX12_beatenFrom_116 rfl 1 rfl ?_
            refine g_iload hC dX12_beatenFrom_117 5 rfl ?_
            obtain ⟨q5, hq5, h⟩ := bd_of h hf
            refine g_cVV (As := [.int x5]) hC hO (c_X12_backTo _ hC.2.2.2.2.2.2.1 t ht1 ht2 x5 q4.2 (nn_of hq5)) gc_X12_335 (xk_X12_backTo _ (by simp only [rm_X12_beatenFrom]; omega) (by simp only [rm_X12_beatenFrom]; omega)) cr12 ht1 ht2 rfl (Nat.le_of_ble_eq_true rfl) dX12_beatenFrom_119 hq5 ?_
            exact g_sub [1, 2, 3, 4, 5, 0, 6] rfl (k_X12_beatenFrom_122 hC hO hR hf rc hrc t ht1 ht2 x1 x2 x4 x5 q4.1 x7 (f_X12_beatenFrom_49 rc t x1 x2 x4 x5 n) ih q5 h)
set_option maxHeartbeats 4000000 in
set_option maxRecDepth 100000 in
theorem k_X12_beatenFrom_42 {E : ET} {F : FT} {fo : Option (Int32 × HS)} {d : Nat} (hC : Cx E F 8 cX12_beatenFrom RX12 GT) (hO : Ro F (rm_X12_beatenFrom (1 * d + 1))) (hR : RI E F .boolean fo) (hf : fo ≠ none) (rc : Nat → Int32 → Int32 → Int32 → Int32 → Int32 → HS → Option (Int32 × HS)) (hrc : ∀ (t : Nat) (_ : kd t = 12) (_ : AL E t) (x1 : Int32) (x2 : Int32) (x3 : Int32) (x4 : Int32) (x5 : Int32) (σ : HS), rc t x1 x2 x3 x4 x5 σ ≠ none → CoI E yX12_beatenFrom w_X12_beatenFrom (rm_X12_beatenFrom (1 * d)) [.ref (E.2.2.1 t), .int x1, .int x2, .int x3, .int x4, .int x5] σ (rc t x1 x2 x3 x4 x5 σ)) (s0 : Int32) (σ : HS) (h : f_X12_beatenFrom_42 rc s0 σ = fo) : G E F 42 [] [.int s0] σ := by
    obtain ⟨hz, h⟩ := zr_of h hf
    exact g_iret hC hR dX12_beatenFrom_42 hz h
set_option maxHeartbeats 4000000 in
set_option maxRecDepth 100000 in
theorem k_X12_beatenFrom_24 {E : ET} {F : FT} {fo : Option (Int32 × HS)} {d : Nat} (hC : Cx E F 8 cX12_beatenFrom RX12 GT) (hO : Ro F (rm_X12_beatenFrom (1 * d + 1))) (hR : RI E F .boolean fo) (hf : fo ≠ none) (rc : Nat → Int32 → Int32 → Int32 → Int32 → Int32 → HS → Option (Int32 × HS)) (hrc : ∀ (t : Nat) (_ : kd t = 12) (_ : AL E t) (x1 : Int32) (x2 : Int32) (x3 : Int32) (x4 : Int32) (x5 : Int32) (σ : HS), rc t x1 x2 x3 x4 x5 σ ≠ none → CoI E yX12_beatenFrom w_X12_beatenFrom (rm_X12_beatenFrom (1 * d)) [.ref (E.2.2.1 t), .int x1, .int x2, .int x3, .int x4, .int x5] σ (rc t x1 x2 x3 x4 x5 σ)) (t : Nat) (ht1 : kd t = 12) (ht2 : AL E t) (x5 : Int32) (s0 : Int32) (s1 : Nat) (hs1a : kd s1 = 12) (hs1b : AL E s1) (σ : HS) (h : f_X12_beatenFrom_24 rc t x5 s0 s1 σ = fo) : G E F 24 [(0, .ref (E.2.2.1 t)), (5, .int x5)] [.int s0, .ref (E.2.2.1 s1)] σ := by
    refine g_putI (k := 36) hC cr12 ui_12 tyX12_ok nmX12 hs1a hs1b (by decide) fl_X12_367 rfl rfl rfl rfl dX12_beatenFrom_24 ?_
    refine g_aload_n hC dX12_beatenFrom_27 rfl 0 rfl ?_
    refine g_getR (cj := 14) (k := 28) hC cr12 ui_12 ht1 ht2 (by decide) fl_X12_112 rfl rfl dX12_beatenFrom_28 h hf (fun a1 ea1 ka1 na1 h => ?_)
    refine g_iload hC dX12_beatenFrom_31 1 rfl ?_
    refine g_iald hC ka1 na1 dX12_beatenFrom_33 h hf (fun h => ?_)
    refine g_if_ne (tgt := 41) hC dX12_beatenFrom_34 (by decide) h (fun c34 h => ?_) (fun c34 h => ?_)
    · refine g_iconst (v := 0) hC dX12_beatenFrom_41 (by decide) ?_
      exact g_sub [] rfl (k_X12_beatenFrom_42 hC hO hR hf rc hrc 0 (sI σ s1 36 s0) h)
    · refine g_iconst (v := 1) hC dX12_beatenFrom_37 (by decide) ?_
      refine g_goto (tgt := 42) hC dX12_beatenFrom_38 (by decide) ?_
      exact g_sub [] rfl (k_X12_beatenFrom_42 hC hO hR hf rc hrc 1 (sI σ s1 36 s0) h)
set_option maxHeartbeats 4000000 in
set_option maxRecDepth 100000 in
theorem k_X12_beatenFrom_0 {E : ET} {F : FT} {fo : Option (Int32 × HS)} {d : Nat} (hC : Cx E F 8 cX12_beatenFrom RX12 GT) (hO : Ro F (rm_X12_beatenFrom (1 * d + 1))) (hR : RI E F .boolean fo) (hf : fo ≠ none) (rc : Nat → Int32 → Int32 → Int32 → Int32 → Int32 → HS → Option (Int32 × HS)) (hrc : ∀ (t : Nat) (_ : kd t = 12) (_ : AL E t) (x1 : Int32) (x2 : Int32) (x3 : Int32) (x4 : Int32) (x5 : Int32) (σ : HS), rc t x1 x2 x3 x4 x5 σ ≠ none → CoI E yX12_beatenFrom w_X12_beatenFrom (rm_X12_beatenFrom (1 * d)) [.ref (E.2.2.1 t), .int x1, .int x2, .int x3, .int x4, .int x5] σ (rc t x1 x2 x3 x4 x5 σ)) (t : Nat) (ht1 : kd t = 12) (ht2 : AL E t) (x1 : Int32) (x2 : Int32) (x3 : Int32) (x4 : Int32) (x5 : Int32) (σ : HS) (h : f_X12_beatenFrom_0 rc t x1 x2 x3 x4 x5 σ = fo) : G E F 0 [(0, .ref (E.2.2.1 t)), (1, .int x1), (2, .int x2), (3, .int x3), (4, .int x4), (5, .int x5)] [] σ := by
    refine g_iload_n hC dX12_beatenFrom_0 rfl 2 rfl ?_
    refine g_if_ne (tgt := 43) hC dX12_beatenFrom_1 (by decide) h (fun c1 h => ?_) (fun c1 h => ?_)
    · refine g_iconst (v := 0) hC dX12_beatenFrom_43 (by decide) ?_
      refine g_istore (lv' := [(6, .int 0), (0, .ref (E.2.2.1 t)), (1, .int x1), (2, .int x2), (3, .int x3), (4, .int x4), (5, .int x5)]) hC dX12_beatenFrom_44 (by decide) rfl ?_
      refine g_iload_n hC dX12_beatenFrom_46 rfl 4 rfl ?_
      refine g_istore (lv' := [(7, .int x3), (6, .int 0), (0, .ref (E.2.2.1 t)), (1, .int x1), (2, .int x2), (3, .int x3), (4, .int x4), (5, .int x5)]) hC dX12_beatenFrom_47 (by decide) rfl ?_
      exact g_sub [2, 3, 4, 6, 7, 1, 0] rfl (k_X12_beatenFrom_49 hC hO hR hf rc hrc t ht1 ht2 x1 x2 x4 x5 FU 0 x3 σ h)
    · refine g_aload_n hC dX12_beatenFrom_4 rfl 0 rfl ?_
      refine g_aload_n hC dX12_beatenFrom_5 rfl 0 rfl ?_
      refine g_getR (cj := 14) (k := 28) hC cr12 ui_12 ht1 ht2 (by decide) fl_X12_112 rfl rfl dX12_beatenFrom_6 h hf (fun a1 ea1 ka1 na1 h => ?_)
      refine g_iload hC dX12_beatenFrom_9 5 rfl ?_
      refine g_iald hC ka1 na1 dX12_beatenFrom_11 h hf (fun h => ?_)
      refine g_if_ne (tgt := 20) hC dX12_beatenFrom_12 (by decide) h (fun c12 h => ?_) (fun c12 h => ?_)
      · refine g_aload_n hC dX12_beatenFrom_20 rfl 0 rfl ?_
        refine g_getI (k := 36) hC cr12 ui_12 ht1 ht2 (by decide) fl_X12_367 rfl rfl dX12_beatenFrom_21 ?_
        exact g_sub [0, 5] rfl (k_X12_beatenFrom_24 hC hO hR hf rc hrc t ht1 ht2 x5 (σ.1 t 36) t ht1 ht2 σ h)
      · refine g_iload hC dX12_beatenFrom_15 4 rfl ?_
        refine g_goto (tgt := 24) hC dX12_beatenFrom_17 (by decide) ?_
        exact g_sub [0, 5] rfl (k_X12_beatenFrom_24 hC hO hR hf rc hrc t ht1 ht2 x5 x4 t ht1 ht2 σ h)
theorem c_X12_beatenFrom (E : ET) (hE : EO E) : ∀ (d : Nat) (t : Nat) (ht1 : kd t = 12) (ht2 : AL E t) (x1 : Int32) (x2 : Int32) (x3 : Int32) (x4 : Int32) (x5 : Int32) (σ : HS), f_X12_beatenFrom d t x1 x2 x3 x4 x5 σ ≠ none → CoI E yX12_beatenFrom w_X12_beatenFrom (rm_X12_beatenFrom (1 * d)) [.ref (E.2.2.1 t), .int x1, .int x2, .int x3, .int x4, .int x5] σ (f_X12_beatenFrom d t x1 x2 x3 x4 x5 σ) := by
  intro d
  induction d with
  | zero => intro t ht1 ht2 x1 x2 x3 x4 x5 σ hn; exact absurd rfl hn
  | succ d ih =>
    intro t ht1 ht2 x1 x2 x3 x4 x5 σ hn
    exact CoI.of (lv := [(0, .ref (E.2.2.1 t)), (1, .int x1), (2, .int x2), (3, .int x3), (4, .int x4), (5, .int x5)]) hE (plainFor_of_name (by decide)) rfl (Nat.le_of_ble_eq_true rfl) rfl (fun F hC hO hR => k_X12_beatenFrom_0 hC hO hR hn (f_X12_beatenFrom d) ih t ht1 ht2 x1 x2 x3 x4 x5 σ rfl)
def rm_X12_isThingIn : Room := { frames := 3, cells := 0, slots := 0, locals := 102 }
set_option maxHeartbeats 4000000 in
set_option maxRecDepth 100000 in
theorem k_X12_isThingIn_23 {E : ET} {F : FT} {fo : Option (Int32 × HS)} (hC : Cx E F 2 cX12_isThingIn RX12 GT) (hO : Ro F rm_X12_isThingIn) (hR : RI E F .boolean fo) (hf : fo ≠ none) (s0 : Int32) (σ : HS) (h : f_X12_isThingIn_23 s0 σ = fo) : G E F 23 [] [.int s0] σ := by
    obtain ⟨hz, h⟩ := zr_of h hf
    exact g_iret hC hR dX12_isThingIn_23 hz h
set_option maxHeartbeats 4000000 in
set_option maxRecDepth 100000 in
theorem k_X12_isThingIn_22 {E : ET} {F : FT} {fo : Option (Int32 × HS)} (hC : Cx E F 2 cX12_isThingIn RX12 GT) (hO : Ro F rm_X12_isThingIn) (hR : RI E F .boolean fo) (hf : fo ≠ none) (σ : HS) (h : f_X12_isThingIn_22 σ = fo) : G E F 22 [] [] σ := by
    refine g_iconst (v := 0) hC dX12_isThingIn_22 (by decide) ?_
    exact g_sub [] rfl (k_X12_isThingIn_23 hC hO hR hf 0 σ h)
set_option maxHeartbeats 4000000 in
set_option maxRecDepth 100000 in
theorem k_X12_isThingIn_0 {E : ET} {F : FT} {fo : Option (Int32 × HS)} (hC : Cx E F 2 cX12_isThingIn RX12 GT) (hO : Ro F rm_X12_isThingIn) (hR : RI E F .boolean fo) (hf : fo ≠ none) (t : Nat) (ht1 : kd t = 12) (ht2 : AL E t) (x1 : Int32) (σ : HS) (h : f_X12_isThingIn t x1 σ = fo) : G E F 0 [(0, .ref (E.2.2.1 t)), (1, .int x1)] [] σ := by
    refine g_iload_n hC dX12_isThingIn_0 rfl 1 rfl ?_
    refine g_iconst (v := 0) hC dX12_isThingIn_1 (by decide) ?_
    refine g_bipush (v := 7) hC dX12_isThingIn_2 (by decide) ?_
    obtain ⟨q1, hq1, h⟩ := bd_of h hf
    refine g_cSI (As := [.int x1, .int 0, .int 7]) hC hO (c_X12_within _ hC.2.2.2.2.2.2.1 x1 0 7 σ (nn_of hq1)) gc_X12_213 (xk_X12_within _ (Nat.le_of_ble_eq_true rfl) (Nat.le_of_ble_eq_true rfl)) rfl (Nat.le_of_ble_eq_true rfl) dX12_isThingIn_4 hq1 ?_
    refine g_if_eq (tgt := 22) hC dX12_isThingIn_7 (by decide) h (fun c7 h => ?_) (fun c7 h => ?_)
    · exact g_sub [] rfl (k_X12_isThingIn_22 hC hO hR hf q1.2 h)
    · refine g_aload_n hC dX12_isThingIn_10 rfl 0 rfl ?_
      refine g_iload_n hC dX12_isThingIn_11 rfl 1 rfl ?_
      obtain ⟨q2, hq2, h⟩ := bd_of h hf
      refine g_cVI (As := [.int x1]) hC hO (c_X12_isIn _ hC.2.2.2.2.2.2.1 t ht1 ht2 x1 q1.2 (nn_of hq2)) gc_X12_223 (xk_X12_isIn _ (Nat.le_of_ble_eq_true rfl) (Nat.le_of_ble_eq_true rfl)) cr12 ht1 ht2 rfl (Nat.le_of_ble_eq_true rfl) dX12_isThingIn_12 hq2 ?_
      refine g_if_eq (tgt := 22) hC dX12_isThingIn_15 (by decide) h (fun c15 h => ?_) (fun c15 h => ?_)
      · exact g_sub [] rfl (k_X12_isThingIn_22 hC hO hR hf q2.2 h)
      · refine g_iconst (v := 1) hC dX12_isThingIn_18 (by decide) ?_
        refine g_goto (tgt := 23) hC dX12_isThingIn_19 (by decide) ?_
        exact g_sub [] rfl (k_X12_isThingIn_23 hC hO hR hf 1 q2.2 h)
theorem xk_X12_isThingIn (R : Room) (h1 : 3 + 1 ≤ R.frames) (h2 : 135 ≤ R.locals) : xw R yX12_isThingIn w_X12_isThingIn GT cX12_isThingIn 2 (some .boolean) rm_X12_isThingIn 1 := ⟨rfl, rfl, rfl, h1, h2, ⟨by decide, by decide⟩, by decide +kernel⟩
theorem c_X12_isThingIn (E : ET) (hE : EO E) (t : Nat) (ht1 : kd t = 12) (ht2 : AL E t) (x1 : Int32) (σ : HS) (hn : f_X12_isThingIn t x1 σ ≠ none) : CoI E yX12_isThingIn w_X12_isThingIn rm_X12_isThingIn [.ref (E.2.2.1 t), .int x1] σ (f_X12_isThingIn t x1 σ) := CoI.of (lv := [(0, .ref (E.2.2.1 t)), (1, .int x1)]) hE (plainFor_of_name (by decide)) rfl (Nat.le_of_ble_eq_true rfl) rfl (fun F hC hO hR => k_X12_isThingIn_0 hC hO hR hn t ht1 ht2 x1 σ rfl)
def rm_X12_beaten : Room := { frames := 18, cells := 0, slots := 0, locals := 679 }
theorem wc_X12_isThingIn : Cond.code yX12_isThingIn cX12_isThingIn 2 (some .boolean) ∈ GT := gtr_43 _ (List.mem_of_getElem? (i := 21) rfl)
theorem gc_X12_383 : GoodIn GT (wsV RX12 383 RX12 yX12_isThingIn w_X12_isThingIn) := gi_V (gtr_43 _ (List.mem_of_getElem? (i := 18) rfl)) (gtr_43 _ (List.mem_of_getElem? (i := 19) rfl)) (gtr_43 _ (List.mem_of_getElem? (i := 20) rfl)) (gtr_1 _ (List.mem_of_getElem? (i := 5) rfl)) wc_X12_isThingIn
set_option maxHeartbeats 4000000 in
set_option maxRecDepth 100000 in
theorem k_X12_beaten_29 {E : ET} {F : FT} {fo : Option (Int32 × HS)} (hC : Cx E F 3 cX12_beaten RX12 GT) (hO : Ro F rm_X12_beaten) (hR : RI E F .int fo) (hf : fo ≠ none) (σ : HS) (h : f_X12_beaten_29 σ = fo) : G E F 29 [] [] σ := by
    refine g_iconst (v := (-1)) hC dX12_beaten_29 (by decide) ?_
    exact g_iret hC hR dX12_beaten_30 rfl h
set_option maxHeartbeats 4000000 in
set_option maxRecDepth 100000 in
theorem k_X12_beaten_33 {E : ET} {F : FT} {fo : Option (Int32 × HS)} (hC : Cx E F 3 cX12_beaten RX12 GT) (hO : Ro F rm_X12_beaten) (hR : RI E F .int fo) (hf : fo ≠ none) (t : Nat) (ht1 : kd t = 12) (ht2 : AL E t) (x1 : Int32) : ∀ (n : Nat) (x2 : Int32) (σ : HS), f_X12_beaten_33 t x1 n x2 σ = fo → G E F 33 [(0, .ref (E.2.2.1 t)), (1, .int x1), (2, .int x2)] [] σ := by
  intro n
  induction n with
  | zero =>
    intro x2 σ h
    exact absurd (h.symm.trans rfl) hf
  | succ n ih =>
    intro x2 σ h
    refine g_iload_n hC dX12_beaten_33 rfl 2 rfl ?_
    refine g_iconst (v := 3) hC dX12_beaten_34 (by decide) ?_
    refine g_icmp_gt (tgt := 61) hC dX12_beaten_35 (by decide) h (fun c35 h => ?_) (fun c35 h => ?_)
    · refine g_iconst (v := (-1)) hC dX12_beaten_61 (by decide) ?_
      exact g_iret hC hR dX12_beaten_62 rfl h
    · refine g_aload_n hC dX12_beaten_38 rfl 0 rfl ?_
      refine g_iload_n hC dX12_beaten_39 rfl 1 rfl ?_
      refine g_iload_n hC dX12_beaten_40 rfl 2 rfl ?_
      refine g_iconst (v := 0) hC dX12_beaten_41 (by decide) ?_
      refine g_iconst (v := 0) hC dX12_beaten_42 (by decide) ?_
      refine g_iconst (v := 0) hC dX12_beaten_43 (by decide) ?_
      obtain ⟨q1, hq1, h⟩ := bd_of h hf
      refine g_cVI (As := [.int x1, .int x2, .int 0, .int 0, .int 0]) hC hO (c_X12_beatenFrom _ hC.2.2.2.2.2.2.1 DEP t ht1 ht2 x1 x2 0 0 0 σ (nn_of hq1)) gc_X12_380 (xk_X12_beatenFrom (1 * DEP) _ (Nat.le_of_ble_eq_true rfl) (Nat.le_of_ble_eq_true rfl)) cr12 ht1 ht2 rfl (Nat.le_of_ble_eq_true rfl) dX12_beaten_44 hq1 ?_
      refine g_if_eq (tgt := 55) hC dX12_beaten_47 (by decide) h (fun c47 h => ?_) (fun c47 h => ?_)
      · refine g_iinc (v := x2 + 1) (lv' := [(2, .int (x2 + 1)), (0, .ref (E.2.2.1 t)), (1, .int x1)]) hC dX12_beaten_55 2 rfl rfl (by decide) rfl ?_
        refine g_goto (tgt := 33) hC dX12_beaten_58 (by decide) ?_
        exact g_sub [1, 2, 0] rfl (ih (x2 + 1) q1.2 h)
      · refine g_aload_n hC dX12_beaten_50 rfl 0 rfl ?_
        refine g_getI (k := 36) hC cr12 ui_12 ht1 ht2 (by decide) fl_X12_367 rfl rfl dX12_beaten_51 ?_
        exact g_iret hC hR dX12_beaten_54 rfl h
set_option maxHeartbeats 4000000 in
set_option maxRecDepth 100000 in
theorem k_X12_beaten_0 {E : ET} {F : FT} {fo : Option (Int32 × HS)} (hC : Cx E F 3 cX12_beaten RX12 GT) (hO : Ro F rm_X12_beaten) (hR : RI E F .int fo) (hf : fo ≠ none) (t : Nat) (ht1 : kd t = 12) (ht2 : AL E t) (x1 : Int32) (σ : HS) (h : f_X12_beaten t x1 σ = fo) : G E F 0 [(0, .ref (E.2.2.1 t)), (1, .int x1)] [] σ := by
    refine g_aload_n hC dX12_beaten_0 rfl 0 rfl ?_
    refine g_iconst (v := 0) hC dX12_beaten_1 (by decide) ?_
    refine g_putI (k := 0) hC cr12 ui_12 tyX12_ok nmX12 ht1 ht2 (by decide) fl_X12_1 rfl rfl rfl rfl dX12_beaten_2 ?_
    refine g_aload_n hC dX12_beaten_5 rfl 0 rfl ?_
    refine g_iload_n hC dX12_beaten_6 rfl 1 rfl ?_
    obtain ⟨q1, hq1, h⟩ := bd_of h hf
    refine g_cVI (As := [.int x1]) hC hO (c_X12_isThingIn _ hC.2.2.2.2.2.2.1 t ht1 ht2 x1 (sI σ t 0 0) (nn_of hq1)) gc_X12_383 (xk_X12_isThingIn _ (Nat.le_of_ble_eq_true rfl) (Nat.le_of_ble_eq_true rfl)) cr12 ht1 ht2 rfl (Nat.le_of_ble_eq_true rfl) dX12_beaten_7 hq1 ?_
    refine g_if_eq (tgt := 29) hC dX12_beaten_10 (by decide) h (fun c10 h => ?_) (fun c10 h => ?_)
    · exact g_sub [] rfl (k_X12_beaten_29 hC hO hR hf q1.2 h)
    · refine g_aload_n hC dX12_beaten_13 rfl 0 rfl ?_
      obtain ⟨q2, hq2, h⟩ := bd_of h hf
      refine g_cVI (As := []) hC hO (c_X12_findNow _ hC.2.2.2.2.2.2.1 t ht1 ht2 q1.2 (nn_of hq2)) gc_X12_361 (xk_X12_findNow _ (Nat.le_of_ble_eq_true rfl) (Nat.le_of_ble_eq_true rfl)) cr12 ht1 ht2 rfl (Nat.le_of_ble_eq_true rfl) dX12_beaten_14 hq2 ?_
      refine g_if_eq (tgt := 29) hC dX12_beaten_17 (by decide) h (fun c17 h => ?_) (fun c17 h => ?_)
      · exact g_sub [] rfl (k_X12_beaten_29 hC hO hR hf q2.2 h)
      · refine g_aload_n hC dX12_beaten_20 rfl 0 rfl ?_
        refine g_iload_n hC dX12_beaten_21 rfl 1 rfl ?_
        refine g_iconst (v := 0) hC dX12_beaten_22 (by decide) ?_
        obtain ⟨q3, hq3, h⟩ := bd_of h hf
        refine g_cVI (As := [.int x1, .int 0]) hC hO (c_X12_mayBe _ hC.2.2.2.2.2.2.1 t ht1 ht2 x1 0 q2.2 (nn_of hq3)) gc_X12_338 (xk_X12_mayBe _ (Nat.le_of_ble_eq_true rfl) (Nat.le_of_ble_eq_true rfl)) cr12 ht1 ht2 rfl (Nat.le_of_ble_eq_true rfl) dX12_beaten_23 hq3 ?_
        refine g_if_eq (tgt := 31) hC dX12_beaten_26 (by decide) h (fun c26 h => ?_) (fun c26 h => ?_)
        · refine g_iconst (v := 1) hC dX12_beaten_31 (by decide) ?_
          refine g_istore_n (lv' := [(2, .int 1), (0, .ref (E.2.2.1 t)), (1, .int x1)]) hC dX12_beaten_32 rfl (by decide) rfl ?_
          exact g_sub [1, 2, 0] rfl (k_X12_beaten_33 hC hO hR hf t ht1 ht2 x1 FU 1 q3.2 h)
        · exact g_sub [] rfl (k_X12_beaten_29 hC hO hR hf q3.2 h)
theorem xk_X12_beaten (R : Room) (h1 : 18 + 1 ≤ R.frames) (h2 : 713 ≤ R.locals) : xw R yX12_beaten w_X12_beaten GT cX12_beaten 3 (some .int) rm_X12_beaten 1 := ⟨rfl, rfl, rfl, h1, h2, ⟨by decide, by decide⟩, by decide +kernel⟩
theorem c_X12_beaten (E : ET) (hE : EO E) (t : Nat) (ht1 : kd t = 12) (ht2 : AL E t) (x1 : Int32) (σ : HS) (hn : f_X12_beaten t x1 σ ≠ none) : CoI E yX12_beaten w_X12_beaten rm_X12_beaten [.ref (E.2.2.1 t), .int x1] σ (f_X12_beaten t x1 σ) := CoI.of (lv := [(0, .ref (E.2.2.1 t)), (1, .int x1)]) hE (plainFor_of_name (by decide)) rfl (Nat.le_of_ble_eq_true rfl) rfl (fun F hC hO hR => k_X12_beaten_0 hC hO hR hn t ht1 ht2 x1 σ rfl)
def rm_X12_betterNow : Room := { frames := 5, cells := 0, slots := 0, locals := 177 }
set_option maxHeartbeats 4000000 in
set_option maxRecDepth 100000 in
theorem k_X12_betterNow_93 {E : ET} {F : FT} {fo : Option (Int32 × HS)} (hC : Cx E F 6 cX12_betterNow RX12 GT) (hO : Ro F rm_X12_betterNow) (hR : RI E F .int fo) (hf : fo ≠ none) (s0 : Int32) (σ : HS) (h : f_X12_betterNow_93 s0 σ = fo) : G E F 93 [] [.int s0] σ := by
    exact g_iret hC hR dX12_betterNow_93 rfl h
set_option maxHeartbeats 4000000 in
set_option maxRecDepth 100000 in
theorem k_X12_betterNow_67 {E : ET} {F : FT} {fo : Option (Int32 × HS)} (hC : Cx E F 6 cX12_betterNow RX12 GT) (hO : Ro F rm_X12_betterNow) (hR : RI E F .int fo) (hf : fo ≠ none) (t : Nat) (ht1 : kd t = 12) (ht2 : AL E t) (x1 : Int32) (x2 : Int32) (x3 : Int32) (x5 : Int32) (s0 : Int32) (r8 : Int32 → Int32 → Int32 → HS → Option (Int32 × HS)) (h8 : ∀ (x3 : Int32) (x4 : Int32) (x5 : Int32) (σ : HS), r8 x3 x4 x5 σ = fo → G E F 8 [(0, .ref (E.2.2.1 t)), (1, .int x1), (2, .int x2), (3, .int x3), (4, .int x4), (5, .int x5)] [] σ) (σ : HS) (h : f_X12_betterNow_67 r8 t x1 x2 x3 x5 s0 σ = fo) : G E F 67 [(0, .ref (E.2.2.1 t)), (1, .int x1), (2, .int x2), (3, .int x3), (5, .int x5)] [.int s0] σ := by
    refine g_istore (lv' := [(4, .int s0), (0, .ref (E.2.2.1 t)), (1, .int x1), (2, .int x2), (3, .int x3), (5, .int x5)]) hC dX12_betterNow_67 (by decide) rfl ?_
    refine g_iinc (v := x5 + 1) (lv' := [(5, .int (x5 + 1)), (4, .int s0), (0, .ref (E.2.2.1 t)), (1, .int x1), (2, .int x2), (3, .int x3)]) hC dX12_betterNow_69 5 rfl rfl (by decide) rfl ?_
    refine g_goto (tgt := 8) hC dX12_betterNow_72 (by decide) ?_
    exact g_sub [2, 3, 4, 5, 1, 0] rfl (h8 x3 s0 (x5 + 1) σ h)
set_option maxHeartbeats 4000000 in
set_option maxRecDepth 100000 in
theorem k_X12_betterNow_62 {E : ET} {F : FT} {fo : Option (Int32 × HS)} (hC : Cx E F 6 cX12_betterNow RX12 GT) (hO : Ro F rm_X12_betterNow) (hR : RI E F .int fo) (hf : fo ≠ none) (t : Nat) (ht1 : kd t = 12) (ht2 : AL E t) (x1 : Int32) (x2 : Int32) (x3 : Int32) (x5 : Int32) (r8 : Int32 → Int32 → Int32 → HS → Option (Int32 × HS)) (h8 : ∀ (x3 : Int32) (x4 : Int32) (x5 : Int32) (σ : HS), r8 x3 x4 x5 σ = fo → G E F 8 [(0, .ref (E.2.2.1 t)), (1, .int x1), (2, .int x2), (3, .int x3), (4, .int x4), (5, .int x5)] [] σ) (σ : HS) (h : f_X12_betterNow_62 r8 t x1 x2 x3 x5 σ = fo) : G E F 62 [(0, .ref (E.2.2.1 t)), (1, .int x1), (2, .int x2), (3, .int x3), (5, .int x5)] [] σ := by
    refine g_iconst (v := 1) hC dX12_betterNow_62 (by decide) ?_
    refine g_goto (tgt := 67) hC dX12_betterNow_63 (by decide) ?_
    exact g_sub [0, 1, 2, 3, 4] rfl (k_X12_betterNow_67 hC hO hR hf t ht1 ht2 x1 x2 x3 x5 1 r8 h8 σ h)
set_option maxHeartbeats 4000000 in
set_option maxRecDepth 100000 in
theorem k_X12_betterNow_42 {E : ET} {F : FT} {fo : Option (Int32 × HS)} (hC : Cx E F 6 cX12_betterNow RX12 GT) (hO : Ro F rm_X12_betterNow) (hR : RI E F .int fo) (hf : fo ≠ none) (t : Nat) (ht1 : kd t = 12) (ht2 : AL E t) (x1 : Int32) (x2 : Int32) (x4 : Int32) (x5 : Int32) (s0 : Int32) (r8 : Int32 → Int32 → Int32 → HS → Option (Int32 × HS)) (h8 : ∀ (x3 : Int32) (x4 : Int32) (x5 : Int32) (σ : HS), r8 x3 x4 x5 σ = fo → G E F 8 [(0, .ref (E.2.2.1 t)), (1, .int x1), (2, .int x2), (3, .int x3), (4, .int x4), (5, .int x5)] [] σ) (σ : HS) (h : f_X12_betterNow_42 r8 t x1 x2 x4 x5 s0 σ = fo) : G E F 42 [(0, .ref (E.2.2.1 t)), (1, .int x1), (2, .int x2), (4, .int x4), (5, .int x5)] [.int s0] σ := by
    refine g_istore_n (lv' := [(3, .int s0), (0, .ref (E.2.2.1 t)), (1, .int x1), (2, .int x2), (4, .int x4), (5, .int x5)]) hC dX12_betterNow_42 rfl (by decide) rfl ?_
    refine g_iload hC dX12_betterNow_43 4 rfl ?_
    refine g_if_ne (tgt := 62) hC dX12_betterNow_45 (by decide) h (fun c45 h => ?_) (fun c45 h => ?_)
    · exact g_sub [1, 2, 3, 0, 5] rfl (k_X12_betterNow_62 hC hO hR hf t ht1 ht2 x1 x2 s0 x5 r8 h8 σ h)
    · refine g_aload_n hC dX12_betterNow_48 rfl 1 rfl ?_
      refine g_iload_n hC dX12_betterNow_49 rfl 2 rfl ?_
      refine g_iload_n hC dX12_betterNow_50 rfl 3 rfl ?_
      refine g_iconst (v := 0) hC dX12_betterNow_51 (by decide) ?_
      refine g_iload hC dX12_betterNow_52 5 rfl ?_
      obtain ⟨q1, hq1, h⟩ := bd_of h hf
      refine g_cVJ (As := [.int x1, .int x2, .int 0, .int x5]) hC hO (c_X12_aboveAt _ hC.2.2.2.2.2.2.1 t ht1 ht2 x1 x2 0 x5 σ (nn_of hq1)) gc_X12_319 (xk_X12_aboveAt _ (Nat.le_of_ble_eq_true rfl) (Nat.le_of_ble_eq_true rfl)) cr12 ht1 ht2 rfl (Nat.le_of_ble_eq_true rfl) dX12_betterNow_54 hq1 ?_
      refine g_lconst (v := 0) hC dX12_betterNow_57 (by decide) ?_
      refine g_lc_lt (tgt := 66) hC dX12_betterNow_58 dX12_betterNow_59 (by decide) h (fun c58 h => ?_) (fun c58 h => ?_)
      · refine g_iconst (v := 0) hC dX12_betterNow_66 (by decide) ?_
        exact g_sub [1, 2, 3, 0, 5] rfl (k_X12_betterNow_67 hC hO hR hf t ht1 ht2 x1 x2 s0 x5 0 r8 h8 q1.2 h)
      · exact g_sub [1, 2, 3, 0, 5] rfl (k_X12_betterNow_62 hC hO hR hf t ht1 ht2 x1 x2 s0 x5 r8 h8 q1.2 h)
set_option maxHeartbeats 4000000 in
set_option maxRecDepth 100000 in
theorem k_X12_betterNow_41 {E : ET} {F : FT} {fo : Option (Int32 × HS)} (hC : Cx E F 6 cX12_betterNow RX12 GT) (hO : Ro F rm_X12_betterNow) (hR : RI E F .int fo) (hf : fo ≠ none) (t : Nat) (ht1 : kd t = 12) (ht2 : AL E t) (x1 : Int32) (x2 : Int32) (x4 : Int32) (x5 : Int32) (r8 : Int32 → Int32 → Int32 → HS → Option (Int32 × HS)) (h8 : ∀ (x3 : Int32) (x4 : Int32) (x5 : Int32) (σ : HS), r8 x3 x4 x5 σ = fo → G E F 8 [(0, .ref (E.2.2.1 t)), (1, .int x1), (2, .int x2), (3, .int x3), (4, .int x4), (5, .int x5)] [] σ) (σ : HS) (h : f_X12_betterNow_41 r8 t x1 x2 x4 x5 σ = fo) : G E F 41 [(0, .ref (E.2.2.1 t)), (1, .int x1), (2, .int x2), (4, .int x4), (5, .int x5)] [] σ := by
    refine g_iconst (v := 0) hC dX12_betterNow_41 (by decide) ?_
    exact g_sub [0, 1, 2, 3, 4] rfl (k_X12_betterNow_42 hC hO hR hf t ht1 ht2 x1 x2 x4 x5 0 r8 h8 σ h)
set_option maxHeartbeats 4000000 in
set_option maxRecDepth 100000 in
theorem k_X12_betterNow_8 {E : ET} {F : FT} {fo : Option (Int32 × HS)} (hC : Cx E F 6 cX12_betterNow RX12 GT) (hO : Ro F rm_X12_betterNow) (hR : RI E F .int fo) (hf : fo ≠ none) (t : Nat) (ht1 : kd t = 12) (ht2 : AL E t) (x1 : Int32) (x2 : Int32) : ∀ (n : Nat) (x3 : Int32) (x4 : Int32) (x5 : Int32) (σ : HS), f_X12_betterNow_8 t x1 x2 n x3 x4 x5 σ = fo → G E F 8 [(0, .ref (E.2.2.1 t)), (1, .int x1), (2, .int x2), (3, .int x3), (4, .int x4), (5, .int x5)] [] σ := by
  intro n
  induction n with
  | zero =>
    intro x3 x4 x5 σ h
    exact absurd (h.symm.trans rfl) hf
  | succ n ih =>
    intro x3 x4 x5 σ h
    refine g_iload hC dX12_betterNow_8 5 rfl ?_
    refine g_aload_n hC dX12_betterNow_10 rfl 0 rfl ?_
    refine g_getR (cj := 14) (k := 28) hC cr12 ui_12 ht1 ht2 (by decide) fl_X12_112 rfl rfl dX12_betterNow_11 h hf (fun a1 ea1 ka1 na1 h => ?_)
    refine g_iconst (v := 0) hC dX12_betterNow_14 (by decide) ?_
    refine g_iald hC ka1 na1 dX12_betterNow_15 h hf (fun h => ?_)
    refine g_icmp_ge (tgt := 75) hC dX12_betterNow_16 (by decide) h (fun c16 h => ?_) (fun c16 h => ?_)
    · refine g_iload_n hC dX12_betterNow_75 rfl 3 rfl ?_
      refine g_if_eq (tgt := 83) hC dX12_betterNow_76 (by decide) h (fun c76 h => ?_) (fun c76 h => ?_)
      · refine g_iload hC dX12_betterNow_83 4 rfl ?_
        refine g_if_eq (tgt := 92) hC dX12_betterNow_85 (by decide) h (fun c85 h => ?_) (fun c85 h => ?_)
        · refine g_iconst (v := 0) hC dX12_betterNow_92 (by decide) ?_
          exact g_sub [] rfl (k_X12_betterNow_93 hC hO hR hf 0 σ h)
        · refine g_iconst (v := 1) hC dX12_betterNow_88 (by decide) ?_
          refine g_goto (tgt := 93) hC dX12_betterNow_89 (by decide) ?_
          exact g_sub [] rfl (k_X12_betterNow_93 hC hO hR hf 1 σ h)
      · refine g_iconst (v := 2) hC dX12_betterNow_79 (by decide) ?_
        refine g_goto (tgt := 93) hC dX12_betterNow_80 (by decide) ?_
        exact g_sub [] rfl (k_X12_betterNow_93 hC hO hR hf 2 σ h)
    · refine g_iload_n hC dX12_betterNow_19 rfl 3 rfl ?_
      refine g_if_eq (tgt := 41) hC dX12_betterNow_20 (by decide) h (fun c20 h => ?_) (fun c20 h => ?_)
      · exact g_sub [0, 1, 2, 4, 5] rfl (k_X12_betterNow_41 hC hO hR hf t ht1 ht2 x1 x2 x4 x5 (f_X12_betterNow_8 t x1 x2 n) ih σ h)
      · refine g_aload_n hC dX12_betterNow_23 rfl 0 rfl ?_
        refine g_iload_n hC dX12_betterNow_24 rfl 1 rfl ?_
        refine g_iload_n hC dX12_betterNow_25 rfl 2 rfl ?_
        refine g_iconst (v := 0) hC dX12_betterNow_26 (by decide) ?_
        refine g_iload hC dX12_betterNow_27 5 rfl ?_
        obtain ⟨q2, hq2, h⟩ := bd_of h hf
        refine g_cVJ (As := [.int x1, .int x2, .int 0, .int x5]) hC hO (c_X12_aboveAt _ hC.2.2.2.2.2.2.1 t ht1 ht2 x1 x2 0 x5 σ (nn_of hq2)) gc_X12_319 (xk_X12_aboveAt _ (Nat.le_of_ble_eq_true rfl) (Nat.le_of_ble_eq_true rfl)) cr12 ht1 ht2 rfl (Nat.le_of_ble_eq_true rfl) dX12_betterNow_29 hq2 ?_
        refine g_lconst (v := 0) hC dX12_betterNow_32 (by decide) ?_
        refine g_lc_lt (tgt := 41) hC dX12_betterNow_33 dX12_betterNow_34 (by decide) h (fun c33 h => ?_) (fun c33 h => ?_)
        · exact g_sub [0, 1, 2, 4, 5] rfl (k_X12_betterNow_41 hC hO hR hf t ht1 ht2 x1 x2 x4 x5 (f_X12_betterNow_8 t x1 x2 n) ih q2.2 h)
        · refine g_iconst (v := 1) hC dX12_betterNow_37 (by decide) ?_
          refine g_goto (tgt := 42) hC dX12_betterNow_38 (by decide) ?_
          exact g_sub [0, 1, 2, 4, 5] rfl (k_X12_betterNow_42 hC hO hR hf t ht1 ht2 x1 x2 x4 x5 1 (f_X12_betterNow_8 t x1 x2 n) ih q2.2 h)
set_option maxHeartbeats 4000000 in
set_option maxRecDepth 100000 in
theorem k_X12_betterNow_0 {E : ET} {F : FT} {fo : Option (Int32 × HS)} (hC : Cx E F 6 cX12_betterNow RX12 GT) (hO : Ro F rm_X12_betterNow) (hR : RI E F .int fo) (hf : fo ≠ none) (t : Nat) (ht1 : kd t = 12) (ht2 : AL E t) (x1 : Int32) (x2 : Int32) (σ : HS) (h : f_X12_betterNow t x1 x2 σ = fo) : G E F 0 [(0, .ref (E.2.2.1 t)), (1, .int x1), (2, .int x2)] [] σ := by
    refine g_iconst (v := 1) hC dX12_betterNow_0 (by decide) ?_
    refine g_istore_n (lv' := [(3, .int 1), (0, .ref (E.2.2.1 t)), (1, .int x1), (2, .int x2)]) hC dX12_betterNow_1 rfl (by decide) rfl ?_
    refine g_iconst (v := 0) hC dX12_betterNow_2 (by decide) ?_
    refine g_istore (lv' := [(4, .int 0), (3, .int 1), (0, .ref (E.2.2.1 t)), (1, .int x1), (2, .int x2)]) hC dX12_betterNow_3 (by decide) rfl ?_
    refine g_iconst (v := 0) hC dX12_betterNow_5 (by decide) ?_
    refine g_istore (lv' := [(5, .int 0), (4, .int 0), (3, .int 1), (0, .ref (E.2.2.1 t)), (1, .int x1), (2, .int x2)]) hC dX12_betterNow_6 (by decide) rfl ?_
    exact g_sub [3, 4, 5, 2, 1, 0] rfl (k_X12_betterNow_8 hC hO hR hf t ht1 ht2 x1 x2 FU 1 0 0 σ h)
theorem xk_X12_betterNow (R : Room) (h1 : 5 + 1 ≤ R.frames) (h2 : 214 ≤ R.locals) : xw R yX12_betterNow w_X12_betterNow GT cX12_betterNow 6 (some .int) rm_X12_betterNow 2 := ⟨rfl, rfl, rfl, h1, h2, ⟨by decide, by decide⟩, by decide +kernel⟩
theorem c_X12_betterNow (E : ET) (hE : EO E) (t : Nat) (ht1 : kd t = 12) (ht2 : AL E t) (x1 : Int32) (x2 : Int32) (σ : HS) (hn : f_X12_betterNow t x1 x2 σ ≠ none) : CoI E yX12_betterNow w_X12_betterNow rm_X12_betterNow [.ref (E.2.2.1 t), .int x1, .int x2] σ (f_X12_betterNow t x1 x2 σ) := CoI.of (lv := [(0, .ref (E.2.2.1 t)), (1, .int x1), (2, .int x2)]) hE (plainFor_of_name (by decide)) rfl (Nat.le_of_ble_eq_true rfl) rfl (fun F hC hO hR => k_X12_betterNow_0 hC hO hR hn t ht1 ht2 x1 x2 σ rfl)
def rm_X12_better : Room := { frames := 7, cells := 0, slots := 0, locals := 239 }
theorem wc_X12_betterNow : Cond.code yX12_betterNow cX12_betterNow 6 (some .int) ∈ GT := gtr_37 _ (List.mem_of_getElem? (i := 19) rfl)
theorem gc_X12_386 : GoodIn GT (wsV RX12 386 RX12 yX12_betterNow w_X12_betterNow) := gi_V (gtr_37 _ (List.mem_of_getElem? (i := 16) rfl)) (gtr_37 _ (List.mem_of_getElem? (i := 17) rfl)) (gtr_37 _ (List.mem_of_getElem? (i := 18) rfl)) (gtr_1 _ (List.mem_of_getElem? (i := 5) rfl)) wc_X12_betterNow
set_option maxHeartbeats 4000000 in
set_option maxRecDepth 100000 in
theorem k_X12_better_31 {E : ET} {F : FT} {fo : Option (Int32 × HS)} (hC : Cx E F 3 cX12_better RX12 GT) (hO : Ro F rm_X12_better) (hR : RI E F .int fo) (hf : fo ≠ none) (s0 : Int32) (σ : HS) (h : f_X12_better_31 s0 σ = fo) : G E F 31 [] [.int s0] σ := by
    exact g_iret hC hR dX12_better_31 rfl h
set_option maxHeartbeats 4000000 in
set_option maxRecDepth 100000 in
theorem k_X12_better_30 {E : ET} {F : FT} {fo : Option (Int32 × HS)} (hC : Cx E F 3 cX12_better RX12 GT) (hO : Ro F rm_X12_better) (hR : RI E F .int fo) (hf : fo ≠ none) (σ : HS) (h : f_X12_better_30 σ = fo) : G E F 30 [] [] σ := by
    refine g_iconst (v := (-1)) hC dX12_better_30 (by decide) ?_
    exact g_sub [] rfl (k_X12_better_31 hC hO hR hf (-1) σ h)
set_option maxHeartbeats 4000000 in
set_option maxRecDepth 100000 in
theorem k_X12_better_0 {E : ET} {F : FT} {fo : Option (Int32 × HS)} (hC : Cx E F 3 cX12_better RX12 GT) (hO : Ro F rm_X12_better) (hR : RI E F .int fo) (hf : fo ≠ none) (t : Nat) (ht1 : kd t = 12) (ht2 : AL E t) (x1 : Int32) (x2 : Int32) (σ : HS) (h : f_X12_better t x1 x2 σ = fo) : G E F 0 [(0, .ref (E.2.2.1 t)), (1, .int x1), (2, .int x2)] [] σ := by
    refine g_aload_n hC dX12_better_0 rfl 0 rfl ?_
    refine g_iconst (v := 0) hC dX12_better_1 (by decide) ?_
    refine g_putI (k := 0) hC cr12 ui_12 tyX12_ok nmX12 ht1 ht2 (by decide) fl_X12_1 rfl rfl rfl rfl dX12_better_2 ?_
    refine g_aload_n hC dX12_better_5 rfl 0 rfl ?_
    refine g_iload_n hC dX12_better_6 rfl 1 rfl ?_
    refine g_iload_n hC dX12_better_7 rfl 2 rfl ?_
    obtain ⟨q1, hq1, h⟩ := bd_of h hf
    refine g_cVI (As := [.int x1, .int x2]) hC hO (c_X12_areTwo _ hC.2.2.2.2.2.2.1 t ht1 ht2 x1 x2 (sI σ t 0 0) (nn_of hq1)) gc_X12_377 (xk_X12_areTwo _ (Nat.le_of_ble_eq_true rfl) (Nat.le_of_ble_eq_true rfl)) cr12 ht1 ht2 rfl (Nat.le_of_ble_eq_true rfl) dX12_better_8 hq1 ?_
    refine g_if_eq (tgt := 30) hC dX12_better_11 (by decide) h (fun c11 h => ?_) (fun c11 h => ?_)
    · exact g_sub [] rfl (k_X12_better_30 hC hO hR hf q1.2 h)
    · refine g_aload_n hC dX12_better_14 rfl 0 rfl ?_
      obtain ⟨q2, hq2, h⟩ := bd_of h hf
      refine g_cVI (As := []) hC hO (c_X12_findNow _ hC.2.2.2.2.2.2.1 t ht1 ht2 q1.2 (nn_of hq2)) gc_X12_361 (xk_X12_findNow _ (Nat.le_of_ble_eq_true rfl) (Nat.le_of_ble_eq_true rfl)) cr12 ht1 ht2 rfl (Nat.le_of_ble_eq_true rfl) dX12_better_15 hq2 ?_
      refine g_if_eq (tgt := 30) hC dX12_better_18 (by decide) h (fun c18 h => ?_) (fun c18 h => ?_)
      · exact g_sub [] rfl (k_X12_better_30 hC hO hR hf q2.2 h)
      · refine g_aload_n hC dX12_better_21 rfl 0 rfl ?_
        refine g_iload_n hC dX12_better_22 rfl 1 rfl ?_
        refine g_iload_n hC dX12_better_23 rfl 2 rfl ?_
        obtain ⟨q3, hq3, h⟩ := bd_of h hf
        refine g_cVI (As := [.int x1, .int x2]) hC hO (c_X12_betterNow _ hC.2.2.2.2.2.2.1 t ht1 ht2 x1 x2 q2.2 (nn_of hq3)) gc_X12_386 (xk_X12_betterNow _ (Nat.le_of_ble_eq_true rfl) (Nat.le_of_ble_eq_true rfl)) cr12 ht1 ht2 rfl (Nat.le_of_ble_eq_true rfl) dX12_better_24 hq3 ?_
        refine g_goto (tgt := 31) hC dX12_better_27 (by decide) ?_
        exact g_sub [] rfl (k_X12_better_31 hC hO hR hf q3.1 q3.2 h)
theorem xk_X12_better (R : Room) (h1 : 7 + 1 ≤ R.frames) (h2 : 273 ≤ R.locals) : xw R yX12_better w_X12_better GT cX12_better 3 (some .int) rm_X12_better 2 := ⟨rfl, rfl, rfl, h1, h2, ⟨by decide, by decide⟩, by decide +kernel⟩
theorem c_X12_better (E : ET) (hE : EO E) (t : Nat) (ht1 : kd t = 12) (ht2 : AL E t) (x1 : Int32) (x2 : Int32) (σ : HS) (hn : f_X12_better t x1 x2 σ ≠ none) : CoI E yX12_better w_X12_better rm_X12_better [.ref (E.2.2.1 t), .int x1, .int x2] σ (f_X12_better t x1 x2 σ) := CoI.of (lv := [(0, .ref (E.2.2.1 t)), (1, .int x1), (2, .int x2)]) hE (plainFor_of_name (by decide)) rfl (Nat.le_of_ble_eq_true rfl) rfl (fun F hC hO hR => k_X12_better_0 hC hO hR hn t ht1 ht2 x1 x2 σ rfl)
def rm_X12_holds : Room := { frames := 6, cells := 0, slots := 0, locals := 214 }
set_option maxHeartbeats 4000000 in
set_option maxRecDepth 100000 in
theorem k_X12_holds_30 {E : ET} {F : FT} {fo : Option (Int32 × HS)} (hC : Cx E F 4 cX12_holds RX12 GT) (hO : Ro F rm_X12_holds) (hR : RI E F .int fo) (hf : fo ≠ none) (σ : HS) (h : f_X12_holds_30 σ = fo) : G E F 30 [] [] σ := by
    refine g_iconst (v := (-1)) hC dX12_holds_30 (by decide) ?_
    exact g_iret hC hR dX12_holds_31 rfl h
set_option maxHeartbeats 4000000 in
set_option maxRecDepth 100000 in
theorem k_X12_holds_69 {E : ET} {F : FT} {fo : Option (Int32 × HS)} (hC : Cx E F 4 cX12_holds RX12 GT) (hO : Ro F rm_X12_holds) (hR : RI E F .int fo) (hf : fo ≠ none) (s0 : Int32) (σ : HS) (h : f_X12_holds_69 s0 σ = fo) : G E F 69 [] [.int s0] σ := by
    exact g_iret hC hR dX12_holds_69 rfl h
set_option maxHeartbeats 4000000 in
set_option maxRecDepth 100000 in
theorem k_X12_holds_0 {E : ET} {F : FT} {fo : Option (Int32 × HS)} (hC : Cx E F 4 cX12_holds RX12 GT) (hO : Ro F rm_X12_holds) (hR : RI E F .int fo) (hf : fo ≠ none) (t : Nat) (ht1 : kd t = 12) (ht2 : AL E t) (x1 : Int32) (x2 : Int32) (x3 : Int32) (σ : HS) (h : f_X12_holds t x1 x2 x3 σ = fo) : G E F 0 [(0, .ref (E.2.2.1 t)), (1, .int x1), (2, .int x2), (3, .int x3)] [] σ := by
    refine g_aload_n hC dX12_holds_0 rfl 0 rfl ?_
    refine g_iconst (v := 0) hC dX12_holds_1 (by decide) ?_
    refine g_putI (k := 0) hC cr12 ui_12 tyX12_ok nmX12 ht1 ht2 (by decide) fl_X12_1 rfl rfl rfl rfl dX12_holds_2 ?_
    refine g_aload_n hC dX12_holds_5 rfl 0 rfl ?_
    refine g_iload_n hC dX12_holds_6 rfl 2 rfl ?_
    refine g_iload_n hC dX12_holds_7 rfl 3 rfl ?_
    obtain ⟨q1, hq1, h⟩ := bd_of h hf
    refine g_cVI (As := [.int x2, .int x3]) hC hO (c_X12_areTwo _ hC.2.2.2.2.2.2.1 t ht1 ht2 x2 x3 (sI σ t 0 0) (nn_of hq1)) gc_X12_377 (xk_X12_areTwo _ (Nat.le_of_ble_eq_true rfl) (Nat.le_of_ble_eq_true rfl)) cr12 ht1 ht2 rfl (Nat.le_of_ble_eq_true rfl) dX12_holds_8 hq1 ?_
    refine g_if_eq (tgt := 30) hC dX12_holds_11 (by decide) h (fun c11 h => ?_) (fun c11 h => ?_)
    · exact g_sub [] rfl (k_X12_holds_30 hC hO hR hf q1.2 h)
    · refine g_iload_n hC dX12_holds_14 rfl 1 rfl ?_
      refine g_iconst (v := 0) hC dX12_holds_15 (by decide) ?_
      refine g_aload_n hC dX12_holds_16 rfl 0 rfl ?_
      refine g_getR (cj := 14) (k := 13) hC cr12 ui_12 ht1 ht2 (by decide) fl_X12_79 rfl rfl dX12_holds_17 h hf (fun a2 ea2 ka2 na2 h => ?_)
      refine g_iconst (v := 0) hC dX12_holds_20 (by decide) ?_
      refine g_iald hC ka2 na2 dX12_holds_21 h hf (fun h => ?_)
      refine g_iconst (v := 1) hC dX12_holds_22 (by decide) ?_
      refine g_isub hC dX12_holds_23 ?_
      obtain ⟨q3, hq3, h⟩ := bd_of h hf
      refine g_cSI (As := [.int x1, .int 0, .int ((q1.2.1 a2 (0 : Int32).toNatClampNeg) - 1)]) hC hO (c_X12_within _ hC.2.2.2.2.2.2.1 x1 0 ((q1.2.1 a2 (0 : Int32).toNatClampNeg) - 1) q1.2 (nn_of hq3)) gc_X12_213 (xk_X12_within _ (Nat.le_of_ble_eq_true rfl) (Nat.le_of_ble_eq_true rfl)) rfl (Nat.le_of_ble_eq_true rfl) dX12_holds_24 hq3 ?_
      refine g_if_ne (tgt := 32) hC dX12_holds_27 (by decide) h (fun c27 h => ?_) (fun c27 h => ?_)
      · refine g_aload_n hC dX12_holds_32 rfl 0 rfl ?_
        refine g_aload_n hC dX12_holds_33 rfl 0 rfl ?_
        obtain ⟨q4, hq4, h⟩ := bd_of h hf
        refine g_cVI (As := []) hC hO (c_X12_heard _ hC.2.2.2.2.2.2.1 t ht1 ht2 q3.2 (nn_of hq4)) gc_X12_295 (xk_X12_heard _ (Nat.le_of_ble_eq_true rfl) (Nat.le_of_ble_eq_true rfl)) cr12 ht1 ht2 rfl (Nat.le_of_ble_eq_true rfl) dX12_holds_34 hq4 ?_
        refine g_iconst (v := 1) hC dX12_holds_37 (by decide) ?_
        refine g_iload_n hC dX12_holds_38 rfl 1 rfl ?_
        refine g_ishl hC dX12_holds_39 ?_
        refine g_iconst (v := (-1)) hC dX12_holds_40 (by decide) ?_
        refine g_ixor hC dX12_holds_41 ?_
        refine g_iand hC dX12_holds_42 ?_
        obtain ⟨q5, hq5, h⟩ := bd_of h hf
        refine g_cVV (As := [.int (q4.1 &&& (((1 : Int32) <<< (x1 &&& 31)) ^^^ (-1)))]) hC hO (c_X12_laysRows _ hC.2.2.2.2.2.2.1 t ht1 ht2 (q4.1 &&& (((1 : Int32) <<< (x1 &&& 31)) ^^^ (-1))) q4.2 (nn_of hq5)) gc_X12_298 (xk_X12_laysRows _ (Nat.le_of_ble_eq_true rfl) (Nat.le_of_ble_eq_true rfl)) cr12 ht1 ht2 rfl (Nat.le_of_ble_eq_true rfl) dX12_holds_43 hq5 ?_
        refine g_aload_n hC dX12_holds_46 rfl 0 rfl ?_
        obtain ⟨q6, hq6, h⟩ := bd_of h hf
        refine g_cVV (As := []) hC hO (c_X12_findCorners _ hC.2.2.2.2.2.2.1 t ht1 ht2 q5 (nn_of hq6)) gc_X12_301 (xk_X12_findCorners _ (Nat.le_of_ble_eq_true rfl) (Nat.le_of_ble_eq_true rfl)) cr12 ht1 ht2 rfl (Nat.le_of_ble_eq_true rfl) dX12_holds_47 hq6 ?_
        refine g_aload_n hC dX12_holds_50 rfl 0 rfl ?_
        refine g_getR (cj := 14) (k := 28) hC cr12 ui_12 ht1 ht2 (by decide) fl_X12_112 rfl rfl dX12_holds_51 h hf (fun a7 ea7 ka7 na7 h => ?_)
        refine g_iconst (v := 0) hC dX12_holds_54 (by decide) ?_
        refine g_iald hC ka7 na7 dX12_holds_55 h hf (fun h => ?_)
        refine g_if_ne (tgt := 63) hC dX12_holds_56 (by decide) h (fun c56 h => ?_) (fun c56 h => ?_)
        · refine g_aload_n hC dX12_holds_63 rfl 0 rfl ?_
          refine g_iload_n hC dX12_holds_64 rfl 2 rfl ?_
          refine g_iload_n hC dX12_holds_65 rfl 3 rfl ?_
          obtain ⟨q8, hq8, h⟩ := bd_of h hf
          refine g_cVI (As := [.int x2, .int x3]) hC hO (c_X12_betterNow _ hC.2.2.2.2.2.2.1 t ht1 ht2 x2 x3 q6 (nn_of hq8)) gc_X12_386 (xk_X12_betterNow _ (Nat.le_of_ble_eq_true rfl) (Nat.le_of_ble_eq_true rfl)) cr12 ht1 ht2 rfl (Nat.le_of_ble_eq_true rfl) dX12_holds_66 hq8 ?_
          exact g_sub [] rfl (k_X12_holds_69 hC hO hR hf q8.1 q8.2 h)
        · refine g_iconst (v := (-1)) hC dX12_holds_59 (by decide) ?_
          refine g_goto (tgt := 69) hC dX12_holds_60 (by decide) ?_
          exact g_sub [] rfl (k_X12_holds_69 hC hO hR hf (-1) q6 h)
      · exact g_sub [] rfl (k_X12_holds_30 hC hO hR hf q3.2 h)
theorem xk_X12_holds (R : Room) (h1 : 6 + 1 ≤ R.frames) (h2 : 249 ≤ R.locals) : xw R yX12_holds w_X12_holds GT cX12_holds 4 (some .int) rm_X12_holds 3 := ⟨rfl, rfl, rfl, h1, h2, ⟨by decide, by decide⟩, by decide +kernel⟩
theorem c_X12_holds (E : ET) (hE : EO E) (t : Nat) (ht1 : kd t = 12) (ht2 : AL E t) (x1 : Int32) (x2 : Int32) (x3 : Int32) (σ : HS) (hn : f_X12_holds t x1 x2 x3 σ ≠ none) : CoI E yX12_holds w_X12_holds rm_X12_holds [.ref (E.2.2.1 t), .int x1, .int x2, .int x3] σ (f_X12_holds t x1 x2 x3 σ) := CoI.of (lv := [(0, .ref (E.2.2.1 t)), (1, .int x1), (2, .int x2), (3, .int x3)]) hE (plainFor_of_name (by decide)) rfl (Nat.le_of_ble_eq_true rfl) rfl (fun F hC hO hR => k_X12_holds_0 hC hO hR hn t ht1 ht2 x1 x2 x3 σ rfl)
def rm_X12_findGap : Room := { frames := 5, cells := 0, slots := 0, locals := 177 }
theorem wc_X12_sumAt : Cond.code yX12_sumAt cX12_sumAt 6 (some .long) ∈ GT := gtr_40 _ (List.mem_of_getElem? (i := 0) rfl)
theorem gc_X12_389 : GoodIn GT (wsV RX12 389 RX12 yX12_sumAt w_X12_sumAt) := gi_V (gtr_39 _ (List.mem_of_getElem? (i := 21) rfl)) (gtr_39 _ (List.mem_of_getElem? (i := 22) rfl)) (gtr_39 _ (List.mem_of_getElem? (i := 23) rfl)) (gtr_1 _ (List.mem_of_getElem? (i := 5) rfl)) wc_X12_sumAt
theorem fl_X12_396 : Cond.fieldLink RX12 396 "EveryMeasureModel" (TX12 37).2.1 (TX12 37).2.2.1 ∈ GT := gtr_39 _ (List.mem_of_getElem? (i := 15) rfl)
theorem fl_X12_392 : Cond.fieldLink RX12 392 "EveryMeasureModel" (TX12 38).2.1 (TX12 38).2.2.1 ∈ GT := gtr_39 _ (List.mem_of_getElem? (i := 16) rfl)
set_option maxHeartbeats 4000000 in
set_option maxRecDepth 100000 in
theorem k_X12_findGap_64 {E : ET} {F : FT} {fo : Option HS} (hC : Cx E F 8 cX12_findGap RX12 GT) (hO : Ro F rm_X12_findGap) (hR : RV E F fo) (hf : fo ≠ none) (t : Nat) (ht1 : kd t = 12) (ht2 : AL E t) (x1 : Int32) (x2 : Int32) (x3 : Int32) (r2 : Int32 → HS → Option HS) (h2 : ∀ (x3 : Int32) (σ : HS), r2 x3 σ = fo → G E F 2 [(0, .ref (E.2.2.1 t)), (1, .int x1), (2, .int x2), (3, .int x3)] [] σ) (σ : HS) (h : f_X12_findGap_64 r2 t x1 x2 x3 σ = fo) : G E F 64 [(0, .ref (E.2.2.1 t)), (1, .int x1), (2, .int x2), (3, .int x3)] [] σ := by
    refine g_iinc (v := x3 + 1) (lv' := [(3, .int (x3 + 1)), (0, .ref (E.2.2.1 t)), (1, .int x1), (2, .int x2)]) hC dX12_findGap_64 3 rfl rfl (by decide) rfl ?_
    refine g_goto (tgt := 2) hC dX12_findGap_67 (by decide) ?_
    exact g_sub [1, 2, 3, 0] rfl (h2 (x3 + 1) σ h)
set_option maxHeartbeats 4000000 in
set_option maxRecDepth 100000 in
theorem k_X12_findGap_52 {E : ET} {F : FT} {fo : Option HS} (hC : Cx E F 8 cX12_findGap RX12 GT) (hO : Ro F rm_X12_findGap) (hR : RV E F fo) (hf : fo ≠ none) (t : Nat) (ht1 : kd t = 12) (ht2 : AL E t) (x1 : Int32) (x2 : Int32) (x3 : Int32) (x4 : Int64) (x6 : Int64) (r2 : Int32 → HS → Option HS) (h2 : ∀ (x3 : Int32) (σ : HS), r2 x3 σ = fo → G E F 2 [(0, .ref (E.2.2.1 t)), (1, .int x1), (2, .int x2), (3, .int x3)] [] σ) (σ : HS) (h : f_X12_findGap_52 r2 t x1 x2 x3 x4 x6 σ = fo) : G E F 52 [(0, .ref (E.2.2.1 t)), (1, .int x1), (2, .int x2), (3, .int x3), (4, .long x4), (6, .long x6)] [] σ := by
    refine g_aload_n hC dX12_findGap_52 rfl 0 rfl ?_
    refine g_lload hC dX12_findGap_53 4 rfl ?_
    refine g_putJ (k := 37) hC cr12 ui_12 tyX12_ok nmX12 ht1 ht2 (by decide) fl_X12_396 rfl rfl rfl rfl dX12_findGap_55 ?_
    refine g_aload_n hC dX12_findGap_58 rfl 0 rfl ?_
    refine g_lload hC dX12_findGap_59 5 rfl ?_
    refine g_putJ (k := 38) hC cr12 ui_12 tyX12_ok nmX12 ht1 ht2 (by decide) fl_X12_392 rfl rfl rfl rfl dX12_findGap_61 ?_
    exact g_sub [0, 1, 2, 3] rfl (k_X12_findGap_64 hC hO hR hf t ht1 ht2 x1 x2 x3 r2 h2 (sJ (sJ σ t 37 x4) t 38 x6) h)
set_option maxHeartbeats 4000000 in
set_option maxRecDepth 100000 in
theorem k_X12_findGap_2 {E : ET} {F : FT} {fo : Option HS} (hC : Cx E F 8 cX12_findGap RX12 GT) (hO : Ro F rm_X12_findGap) (hR : RV E F fo) (hf : fo ≠ none) (t : Nat) (ht1 : kd t = 12) (ht2 : AL E t) (x1 : Int32) (x2 : Int32) : ∀ (n : Nat) (x3 : Int32) (σ : HS), f_X12_findGap_2 t x1 x2 n x3 σ = fo → G E F 2 [(0, .ref (E.2.2.1 t)), (1, .int x1), (2, .int x2), (3, .int x3)] [] σ := by
  intro n
  induction n with
  | zero =>
    intro x3 σ h
    exact absurd (h.symm.trans rfl) hf
  | succ n ih =>
    intro x3 σ h
    refine g_iload_n hC dX12_findGap_2 rfl 3 rfl ?_
    refine g_aload_n hC dX12_findGap_3 rfl 0 rfl ?_
    refine g_getR (cj := 14) (k := 28) hC cr12 ui_12 ht1 ht2 (by decide) fl_X12_112 rfl rfl dX12_findGap_4 h hf (fun a1 ea1 ka1 na1 h => ?_)
    refine g_iconst (v := 0) hC dX12_findGap_7 (by decide) ?_
    refine g_iald hC ka1 na1 dX12_findGap_8 h hf (fun h => ?_)
    refine g_icmp_ge (tgt := 70) hC dX12_findGap_9 (by decide) h (fun c9 h => ?_) (fun c9 h => ?_)
    · exact g_vret hC hR dX12_findGap_70 h
    · refine g_aload_n hC dX12_findGap_12 rfl 0 rfl ?_
      refine g_iload_n hC dX12_findGap_13 rfl 2 rfl ?_
      refine g_iload_n hC dX12_findGap_14 rfl 1 rfl ?_
      refine g_iconst (v := 0) hC dX12_findGap_15 (by decide) ?_
      refine g_iload_n hC dX12_findGap_16 rfl 3 rfl ?_
      obtain ⟨q2, hq2, h⟩ := bd_of h hf
      refine g_cVJ (As := [.int x2, .int x1, .int 0, .int x3]) hC hO (c_X12_aboveAt _ hC.2.2.2.2.2.2.1 t ht1 ht2 x2 x1 0 x3 σ (nn_of hq2)) gc_X12_319 (xk_X12_aboveAt _ (Nat.le_of_ble_eq_true rfl) (Nat.le_of_ble_eq_true rfl)) cr12 ht1 ht2 rfl (Nat.le_of_ble_eq_true rfl) dX12_findGap_17 hq2 ?_
      refine g_lstore (lv' := [(4, .long q2.1), (0, .ref (E.2.2.1 t)), (1, .int x1), (2, .int x2), (3, .int x3)]) hC dX12_findGap_20 (by decide) rfl ?_
      refine g_aload_n hC dX12_findGap_22 rfl 1 rfl ?_
      refine g_iconst (v := 0) hC dX12_findGap_23 (by decide) ?_
      refine g_iload_n hC dX12_findGap_24 rfl 4 rfl ?_
      obtain ⟨q3, hq3, h⟩ := bd_of h hf
      refine g_cVJ (As := [.int 0, .int x3]) hC hO (c_X12_sumAt _ hC.2.2.2.2.2.2.1 t ht1 ht2 0 x3 q2.2 (nn_of hq3)) gc_X12_389 (xk_X12_sumAt _ (Nat.le_of_ble_eq_true rfl) (Nat.le_of_ble_eq_true rfl)) cr12 ht1 ht2 rfl (Nat.le_of_ble_eq_true rfl) dX12_findGap_25 hq3 ?_
      refine g_lstore (lv' := [(6, .long q3.1), (4, .long q2.1), (0, .ref (E.2.2.1 t)), (1, .int x1), (2, .int x2), (3, .int x3)]) hC dX12_findGap_28 (by decide) rfl ?_
      refine g_iload_n hC dX12_findGap_30 rfl 5 rfl ?_
      refine g_if_eq (tgt := 52) hC dX12_findGap_31 (by decide) h (fun c31 h => ?_) (fun c31 h => ?_)
      · exact g_sub [2, 3, 4, 5, 1, 0] rfl (k_X12_findGap_52 hC hO hR hf t ht1 ht2 x1 x2 x3 q2.1 q3.1 (f_X12_findGap_2 t x1 x2 n) ih q3.2 h)
      · refine g_lload hC dX12_findGap_34 1 rfl ?_
        refine g_aload_n hC dX12_findGap_36 rfl 2 rfl ?_
        refine g_getJ (k := 38) hC cr12 ui_12 ht1 ht2 (by decide) fl_X12_392 rfl rfl dX12_findGap_37 ?_
        refine g_lmul hC dX12_findGap_40 ?_
        refine g_aload_n hC dX12_findGap_41 rfl 2 rfl ?_
        refine g_getJ (k := 37) hC cr12 ui_12 ht1 ht2 (by decide) fl_X12_396 rfl rfl dX12_findGap_42 ?_
        refine g_lload hC dX12_findGap_45 0 rfl ?_
        refine g_lmul hC dX12_findGap_47 ?_
        refine g_lc_le (tgt := 64) hC dX12_findGap_48 dX12_findGap_49 (by decide) h (fun c48 h => ?_) (fun c48 h => ?_)
        · exact g_sub [2, 3, 4, 5] rfl (k_X12_findGap_64 hC hO hR hf t ht1 ht2 x1 x2 x3 (f_X12_findGap_2 t x1 x2 n) ih q3.2 h)
        · exact g_sub [2, 3, 4, 5, 1, 0] rfl (k_X12_findGap_52 hC hO hR hf t ht1 ht2 x1 x2 x3 q2.1 q3.1 (f_X12_findGap_2 t x1 x2 n) ih q3.2 h)
set_option maxHeartbeats 4000000 in
set_option maxRecDepth 100000 in
theorem k_X12_findGap_0 {E : ET} {F : FT} {fo : Option HS} (hC : Cx E F 8 cX12_findGap RX12 GT) (hO : Ro F rm_X12_findGap) (hR : RV E F fo) (hf : fo ≠ none) (t : Nat) (ht1 : kd t = 12) (ht2 : AL E t) (x1 : Int32) (x2 : Int32) (σ : HS) (h : f_X12_findGap t x1 x2 σ = fo) : G E F 0 [(0, .ref (E.2.2.1 t)), (1, .int x1), (2, .int x2)] [] σ := by
    refine g_iconst (v := 0) hC dX12_findGap_0 (by decide) ?_
    refine g_istore_n (lv' := [(3, .int 0), (0, .ref (E.2.2.1 t)), (1, .int x1), (2, .int x2)]) hC dX12_findGap_1 rfl (by decide) rfl ?_
    exact g_sub [1, 2, 3, 0] rfl (k_X12_findGap_2 hC hO hR hf t ht1 ht2 x1 x2 FU 0 σ h)
theorem xk_X12_findGap (R : Room) (h1 : 5 + 1 ≤ R.frames) (h2 : 216 ≤ R.locals) : xw R yX12_findGap w_X12_findGap GT cX12_findGap 8 none rm_X12_findGap 2 := ⟨rfl, rfl, rfl, h1, h2, ⟨by decide, by decide⟩, by decide +kernel⟩
theorem c_X12_findGap (E : ET) (hE : EO E) (t : Nat) (ht1 : kd t = 12) (ht2 : AL E t) (x1 : Int32) (x2 : Int32) (σ : HS) (hn : f_X12_findGap t x1 x2 σ ≠ none) : CoV E yX12_findGap w_X12_findGap rm_X12_findGap [.ref (E.2.2.1 t), .int x1, .int x2] σ (f_X12_findGap t x1 x2 σ) := CoV.of (lv := [(0, .ref (E.2.2.1 t)), (1, .int x1), (2, .int x2)]) hE (plainFor_of_name (by decide)) rfl (Nat.le_of_ble_eq_true rfl) rfl (fun F hC hO hR => k_X12_findGap_0 hC hO hR hn t ht1 ht2 x1 x2 σ rfl)
def rm_X12_gap : Room := { frames := 7, cells := 0, slots := 0, locals := 239 }
theorem wc_X12_findGap : Cond.code yX12_findGap cX12_findGap 8 none ∈ GT := gtr_39 _ (List.mem_of_getElem? (i := 20) rfl)
theorem gc_X12_399 : GoodIn GT (wsV RX12 399 RX12 yX12_findGap w_X12_findGap) := gi_V (gtr_39 _ (List.mem_of_getElem? (i := 17) rfl)) (gtr_39 _ (List.mem_of_getElem? (i := 18) rfl)) (gtr_39 _ (List.mem_of_getElem? (i := 19) rfl)) (gtr_1 _ (List.mem_of_getElem? (i := 5) rfl)) wc_X12_findGap
set_option maxHeartbeats 4000000 in
set_option maxRecDepth 100000 in
theorem k_X12_gap_83 {E : ET} {F : FT} {fo : Option (Int64 × HS)} (hC : Cx E F 6 cX12_gap RX12 GT) (hO : Ro F rm_X12_gap) (hR : RJ E F fo) (hf : fo ≠ none) (s0 : Int64) (σ : HS) (h : f_X12_gap_83 s0 σ = fo) : G E F 83 [] [.long s0] σ := by
    exact g_lret hC hR dX12_gap_83 h
set_option maxHeartbeats 4000000 in
set_option maxRecDepth 100000 in
theorem k_X12_gap_31 {E : ET} {F : FT} {fo : Option (Int64 × HS)} (hC : Cx E F 6 cX12_gap RX12 GT) (hO : Ro F rm_X12_gap) (hR : RJ E F fo) (hf : fo ≠ none) (t : Nat) (ht1 : kd t = 12) (ht2 : AL E t) (x1 : Int32) (x2 : Int32) (x3 : Int32) (s0 : Int32) (s1 : Nat) (hs1a : kd s1 = 12) (hs1b : AL E s1) (σ : HS) (h : f_X12_gap_31 t x1 x2 x3 s0 s1 σ = fo) : G E F 31 [(0, .ref (E.2.2.1 t)), (1, .int x1), (2, .int x2), (3, .int x3)] [.int s0, .ref (E.2.2.1 s1)] σ := by
    refine g_putI (k := 0) hC cr12 ui_12 tyX12_ok nmX12 hs1a hs1b (by decide) fl_X12_1 rfl rfl rfl rfl dX12_gap_31 ?_
    refine g_aload_n hC dX12_gap_34 rfl 0 rfl ?_
    refine g_getI (k := 0) hC cr12 ui_12 ht1 ht2 (by decide) fl_X12_1 rfl rfl dX12_gap_35 ?_
    refine g_if_le (tgt := 43) hC dX12_gap_38 (by decide) h (fun c38 h => ?_) (fun c38 h => ?_)
    · refine g_aload_n hC dX12_gap_43 rfl 0 rfl ?_
      refine g_iload_n hC dX12_gap_44 rfl 1 rfl ?_
      refine g_iload_n hC dX12_gap_45 rfl 2 rfl ?_
      obtain ⟨q1, hq1, h⟩ := bd_of h hf
      refine g_cVV (As := [.int x1, .int x2]) hC hO (c_X12_findGap _ hC.2.2.2.2.2.2.1 t ht1 ht2 x1 x2 (sI σ s1 0 s0) (nn_of hq1)) gc_X12_399 (xk_X12_findGap _ (Nat.le_of_ble_eq_true rfl) (Nat.le_of_ble_eq_true rfl)) cr12 ht1 ht2 rfl (Nat.le_of_ble_eq_true rfl) dX12_gap_46 hq1 ?_
      refine g_aload_n hC dX12_gap_49 rfl 0 rfl ?_
      refine g_getJ (k := 37) hC cr12 ui_12 ht1 ht2 (by decide) fl_X12_396 rfl rfl dX12_gap_50 ?_
      refine g_aload_n hC dX12_gap_53 rfl 0 rfl ?_
      refine g_getJ (k := 38) hC cr12 ui_12 ht1 ht2 (by decide) fl_X12_392 rfl rfl dX12_gap_54 ?_
      obtain ⟨q2, hq2, h⟩ := bd_of h hf
      refine g_cSJ (As := [.long (q1.2.1 t 37), .long (q1.2.1 t 38)]) hC hO (c_X12_common _ hC.2.2.2.2.2.2.1 (q1.2.1 t 37) (q1.2.1 t 38) q1 (nn_of hq2)) gc_X12_281 (xk_X12_common _ (Nat.le_of_ble_eq_true rfl) (Nat.le_of_ble_eq_true rfl)) rfl (Nat.le_of_ble_eq_true rfl) dX12_gap_57 hq2 ?_
      refine g_lstore (lv' := [(4, .long q2.1), (0, .ref (E.2.2.1 t)), (1, .int x1), (2, .int x2), (3, .int x3)]) hC dX12_gap_60 (by decide) rfl ?_
      refine g_iload_n hC dX12_gap_62 rfl 4 rfl ?_
      refine g_if_ne (tgt := 76) hC dX12_gap_63 (by decide) h (fun c63 h => ?_) (fun c63 h => ?_)
      · refine g_aload_n hC dX12_gap_76 rfl 1 rfl ?_
        refine g_getJ (k := 38) hC cr12 ui_12 ht1 ht2 (by decide) fl_X12_392 rfl rfl dX12_gap_77 ?_
        refine g_lload hC dX12_gap_80 0 rfl ?_
        obtain ⟨hz82, h⟩ := nz_of h hf
        refine g_ldiv hC dX12_gap_82 hz82 ?_
        exact g_sub [] rfl (k_X12_gap_83 hC hO hR hf ((q2.2.2.1 t 38) / q2.1) q2.2 h)
      · refine g_aload_n hC dX12_gap_66 rfl 1 rfl ?_
        refine g_getJ (k := 37) hC cr12 ui_12 ht1 ht2 (by decide) fl_X12_396 rfl rfl dX12_gap_67 ?_
        refine g_lload hC dX12_gap_70 0 rfl ?_
        obtain ⟨hz72, h⟩ := nz_of h hf
        refine g_ldiv hC dX12_gap_72 hz72 ?_
        refine g_goto (tgt := 83) hC dX12_gap_73 (by decide) ?_
        exact g_sub [] rfl (k_X12_gap_83 hC hO hR hf ((q2.2.2.1 t 37) / q2.1) q2.2 h)
    · refine g_lconst (v := 0) hC dX12_gap_41 (by decide) ?_
      exact g_lret hC hR dX12_gap_42 h
set_option maxHeartbeats 4000000 in
set_option maxRecDepth 100000 in
theorem k_X12_gap_30 {E : ET} {F : FT} {fo : Option (Int64 × HS)} (hC : Cx E F 6 cX12_gap RX12 GT) (hO : Ro F rm_X12_gap) (hR : RJ E F fo) (hf : fo ≠ none) (t : Nat) (ht1 : kd t = 12) (ht2 : AL E t) (x1 : Int32) (x2 : Int32) (x3 : Int32) (s0 : Nat) (hs0a : kd s0 = 12) (hs0b : AL E s0) (σ : HS) (h : f_X12_gap_30 t x1 x2 x3 s0 σ = fo) : G E F 30 [(0, .ref (E.2.2.1 t)), (1, .int x1), (2, .int x2), (3, .int x3)] [.ref (E.2.2.1 s0)] σ := by
    refine g_iconst (v := 1) hC dX12_gap_30 (by decide) ?_
    exact g_sub [0, 1, 2, 3] rfl (k_X12_gap_31 hC hO hR hf t ht1 ht2 x1 x2 x3 1 s0 hs0a hs0b σ h)
set_option maxHeartbeats 4000000 in
set_option maxRecDepth 100000 in
theorem k_X12_gap_0 {E : ET} {F : FT} {fo : Option (Int64 × HS)} (hC : Cx E F 6 cX12_gap RX12 GT) (hO : Ro F rm_X12_gap) (hR : RJ E F fo) (hf : fo ≠ none) (t : Nat) (ht1 : kd t = 12) (ht2 : AL E t) (x1 : Int32) (x2 : Int32) (x3 : Int32) (σ : HS) (h : f_X12_gap t x1 x2 x3 σ = fo) : G E F 0 [(0, .ref (E.2.2.1 t)), (1, .int x1), (2, .int x2), (3, .int x3)] [] σ := by
    refine g_aload_n hC dX12_gap_0 rfl 0 rfl ?_
    refine g_aload_n hC dX12_gap_1 rfl 0 rfl ?_
    refine g_iload_n hC dX12_gap_2 rfl 1 rfl ?_
    refine g_iload_n hC dX12_gap_3 rfl 2 rfl ?_
    obtain ⟨q1, hq1, h⟩ := bd_of h hf
    refine g_cVI (As := [.int x1, .int x2]) hC hO (c_X12_areTwo _ hC.2.2.2.2.2.2.1 t ht1 ht2 x1 x2 σ (nn_of hq1)) gc_X12_377 (xk_X12_areTwo _ (Nat.le_of_ble_eq_true rfl) (Nat.le_of_ble_eq_true rfl)) cr12 ht1 ht2 rfl (Nat.le_of_ble_eq_true rfl) dX12_gap_4 hq1 ?_
    refine g_if_eq (tgt := 30) hC dX12_gap_7 (by decide) h (fun c7 h => ?_) (fun c7 h => ?_)
    · exact g_sub [0, 1, 2, 3] rfl (k_X12_gap_30 hC hO hR hf t ht1 ht2 x1 x2 x3 t ht1 ht2 q1.2 h)
    · refine g_iload_n hC dX12_gap_10 rfl 3 rfl ?_
      refine g_iconst (v := 0) hC dX12_gap_11 (by decide) ?_
      refine g_iconst (v := 1) hC dX12_gap_12 (by decide) ?_
      obtain ⟨q2, hq2, h⟩ := bd_of h hf
      refine g_cSI (As := [.int x3, .int 0, .int 1]) hC hO (c_X12_within _ hC.2.2.2.2.2.2.1 x3 0 1 q1.2 (nn_of hq2)) gc_X12_213 (xk_X12_within _ (Nat.le_of_ble_eq_true rfl) (Nat.le_of_ble_eq_true rfl)) rfl (Nat.le_of_ble_eq_true rfl) dX12_gap_13 hq2 ?_
      refine g_if_eq (tgt := 30) hC dX12_gap_16 (by decide) h (fun c16 h => ?_) (fun c16 h => ?_)
      · exact g_sub [0, 1, 2, 3] rfl (k_X12_gap_30 hC hO hR hf t ht1 ht2 x1 x2 x3 t ht1 ht2 q2.2 h)
      · refine g_aload_n hC dX12_gap_19 rfl 0 rfl ?_
        obtain ⟨q3, hq3, h⟩ := bd_of h hf
        refine g_cVI (As := []) hC hO (c_X12_findNow _ hC.2.2.2.2.2.2.1 t ht1 ht2 q2.2 (nn_of hq3)) gc_X12_361 (xk_X12_findNow _ (Nat.le_of_ble_eq_true rfl) (Nat.le_of_ble_eq_true rfl)) cr12 ht1 ht2 rfl (Nat.le_of_ble_eq_true rfl) dX12_gap_20 hq3 ?_
        refine g_if_eq (tgt := 30) hC dX12_gap_23 (by decide) h (fun c23 h => ?_) (fun c23 h => ?_)
        · exact g_sub [0, 1, 2, 3] rfl (k_X12_gap_30 hC hO hR hf t ht1 ht2 x1 x2 x3 t ht1 ht2 q3.2 h)
        · refine g_iconst (v := 0) hC dX12_gap_26 (by decide) ?_
          refine g_goto (tgt := 31) hC dX12_gap_27 (by decide) ?_
          exact g_sub [0, 1, 2, 3] rfl (k_X12_gap_31 hC hO hR hf t ht1 ht2 x1 x2 x3 0 t ht1 ht2 q3.2 h)
theorem xk_X12_gap (R : Room) (h1 : 7 + 1 ≤ R.frames) (h2 : 276 ≤ R.locals) : xw R yX12_gap w_X12_gap GT cX12_gap 6 (some .long) rm_X12_gap 3 := ⟨rfl, rfl, rfl, h1, h2, ⟨by decide, by decide⟩, by decide +kernel⟩
theorem c_X12_gap (E : ET) (hE : EO E) (t : Nat) (ht1 : kd t = 12) (ht2 : AL E t) (x1 : Int32) (x2 : Int32) (x3 : Int32) (σ : HS) (hn : f_X12_gap t x1 x2 x3 σ ≠ none) : CoJ E yX12_gap w_X12_gap rm_X12_gap [.ref (E.2.2.1 t), .int x1, .int x2, .int x3] σ (f_X12_gap t x1 x2 x3 σ) := CoJ.of (lv := [(0, .ref (E.2.2.1 t)), (1, .int x1), (2, .int x2), (3, .int x3)]) hE (plainFor_of_name (by decide)) rfl (Nat.le_of_ble_eq_true rfl) rfl (fun F hC hO hR => k_X12_gap_0 hC hO hR hn t ht1 ht2 x1 x2 x3 σ rfl)
def rm_X12_findRegret : Room := { frames := 6, cells := 0, slots := 0, locals := 216 }
set_option maxHeartbeats 4000000 in
set_option maxRecDepth 100000 in
theorem k_X12_findRegret_65 {E : ET} {F : FT} {fo : Option HS} (hC : Cx E F 7 cX12_findRegret RX12 GT) (hO : Ro F rm_X12_findRegret) (hR : RV E F fo) (hf : fo ≠ none) (t : Nat) (ht1 : kd t = 12) (ht2 : AL E t) (x1 : Int32) (x2 : Int64) (x4 : Int64) (x6 : Int32) (r8 : Int64 → Int64 → Int32 → HS → Option HS) (h8 : ∀ (x2 : Int64) (x4 : Int64) (x6 : Int32) (σ : HS), r8 x2 x4 x6 σ = fo → G E F 8 [(0, .ref (E.2.2.1 t)), (1, .int x1), (2, .long x2), (4, .long x4), (6, .int x6)] [] σ) (σ : HS) (h : f_X12_findRegret_65 r8 t x1 x2 x4 x6 σ = fo) : G E F 65 [(0, .ref (E.2.2.1 t)), (1, .int x1), (2, .long x2), (4, .long x4), (6, .int x6)] [] σ := by
    refine g_iinc (v := x6 + 1) (lv' := [(6, .int (x6 + 1)), (0, .ref (E.2.2.1 t)), (1, .int x1), (2, .long x2), (4, .long x4)]) hC dX12_findRegret_65 4 rfl rfl (by decide) rfl ?_
    refine g_goto (tgt := 8) hC dX12_findRegret_68 (by decide) ?_
    exact g_sub [1, 2, 3, 4, 0] rfl (h8 x2 x4 (x6 + 1) σ h)
set_option maxHeartbeats 4000000 in
set_option maxRecDepth 100000 in
theorem k_X12_findRegret_8 {E : ET} {F : FT} {fo : Option HS} (hC : Cx E F 7 cX12_findRegret RX12 GT) (hO : Ro F rm_X12_findRegret) (hR : RV E F fo) (hf : fo ≠ none) (t : Nat) (ht1 : kd t = 12) (ht2 : AL E t) (x1 : Int32) : ∀ (n : Nat) (x2 : Int64) (x4 : Int64) (x6 : Int32) (σ : HS), f_X12_findRegret_8 t x1 n x2 x4 x6 σ = fo → G E F 8 [(0, .ref (E.2.2.1 t)), (1, .int x1), (2, .long x2), (4, .long x4), (6, .int x6)] [] σ := by
  intro n
  induction n with
  | zero =>
    intro x2 x4 x6 σ h
    exact absurd (h.symm.trans rfl) hf
  | succ n ih =>
    intro x2 x4 x6 σ h
    refine g_iload hC dX12_findRegret_8 4 rfl ?_
    refine g_bipush (v := 8) hC dX12_findRegret_10 (by decide) ?_
    refine g_icmp_ge (tgt := 71) hC dX12_findRegret_12 (by decide) h (fun c12 h => ?_) (fun c12 h => ?_)
    · refine g_aload_n hC dX12_findRegret_71 rfl 0 rfl ?_
      refine g_lload_n hC dX12_findRegret_72 rfl 2 rfl ?_
      refine g_putJ (k := 37) hC cr12 ui_12 tyX12_ok nmX12 ht1 ht2 (by decide) fl_X12_396 rfl rfl rfl rfl dX12_findRegret_73 ?_
      refine g_aload_n hC dX12_findRegret_76 rfl 0 rfl ?_
      refine g_lload hC dX12_findRegret_77 3 rfl ?_
      refine g_putJ (k := 38) hC cr12 ui_12 tyX12_ok nmX12 ht1 ht2 (by decide) fl_X12_392 rfl rfl rfl rfl dX12_findRegret_79 ?_
      exact g_vret hC hR dX12_findRegret_82 h
    · refine g_iload hC dX12_findRegret_15 4 rfl ?_
      refine g_iload_n hC dX12_findRegret_17 rfl 1 rfl ?_
      refine g_icmp_eq (tgt := 65) hC dX12_findRegret_18 (by decide) h (fun c18 h => ?_) (fun c18 h => ?_)
      · exact g_sub [0, 1, 2, 3, 4] rfl (k_X12_findRegret_65 hC hO hR hf t ht1 ht2 x1 x2 x4 x6 (f_X12_findRegret_8 t x1 n) ih σ h)
      · refine g_aload_n hC dX12_findRegret_21 rfl 0 rfl ?_
        refine g_iload hC dX12_findRegret_22 4 rfl ?_
        obtain ⟨q1, hq1, h⟩ := bd_of h hf
        refine g_cVI (As := [.int x6]) hC hO (c_X12_isIn _ hC.2.2.2.2.2.2.1 t ht1 ht2 x6 σ (nn_of hq1)) gc_X12_223 (xk_X12_isIn _ (Nat.le_of_ble_eq_true rfl) (Nat.le_of_ble_eq_true rfl)) cr12 ht1 ht2 rfl (Nat.le_of_ble_eq_true rfl) dX12_findRegret_24 hq1 ?_
        refine g_if_eq (tgt := 65) hC dX12_findRegret_27 (by decide) h (fun c27 h => ?_) (fun c27 h => ?_)
        · exact g_sub [0, 1, 2, 3, 4] rfl (k_X12_findRegret_65 hC hO hR hf t ht1 ht2 x1 x2 x4 x6 (f_X12_findRegret_8 t x1 n) ih q1.2 h)
        · refine g_aload_n hC dX12_findRegret_30 rfl 0 rfl ?_
          refine g_iload_n hC dX12_findRegret_31 rfl 1 rfl ?_
          refine g_iload hC dX12_findRegret_32 4 rfl ?_
          obtain ⟨q2, hq2, h⟩ := bd_of h hf
          refine g_cVV (As := [.int x1, .int x6]) hC hO (c_X12_findGap _ hC.2.2.2.2.2.2.1 t ht1 ht2 x1 x6 q1.2 (nn_of hq2)) gc_X12_399 (xk_X12_findGap _ (Nat.le_of_ble_eq_true rfl) (Nat.le_of_ble_eq_true rfl)) cr12 ht1 ht2 rfl (Nat.le_of_ble_eq_true rfl) dX12_findRegret_34 hq2 ?_
          refine g_aload_n hC dX12_findRegret_37 rfl 0 rfl ?_
          refine g_getJ (k := 37) hC cr12 ui_12 ht1 ht2 (by decide) fl_X12_396 rfl rfl dX12_findRegret_38 ?_
          refine g_lload hC dX12_findRegret_41 3 rfl ?_
          refine g_lmul hC dX12_findRegret_43 ?_
          refine g_lload_n hC dX12_findRegret_44 rfl 2 rfl ?_
          refine g_aload_n hC dX12_findRegret_45 rfl 0 rfl ?_
          refine g_getJ (k := 38) hC cr12 ui_12 ht1 ht2 (by decide) fl_X12_392 rfl rfl dX12_findRegret_46 ?_
          refine g_lmul hC dX12_findRegret_49 ?_
          refine g_lc_le (tgt := 65) hC dX12_findRegret_50 dX12_findRegret_51 (by decide) h (fun c50 h => ?_) (fun c50 h => ?_)
          · exact g_sub [0, 1, 2, 3, 4] rfl (k_X12_findRegret_65 hC hO hR hf t ht1 ht2 x1 x2 x4 x6 (f_X12_findRegret_8 t x1 n) ih q2 h)
          · refine g_aload_n hC dX12_findRegret_54 rfl 0 rfl ?_
            refine g_getJ (k := 37) hC cr12 ui_12 ht1 ht2 (by decide) fl_X12_396 rfl rfl dX12_findRegret_55 ?_
            refine g_lstore_n (lv' := [(2, .long (q2.2.1 t 37)), (0, .ref (E.2.2.1 t)), (1, .int x1), (4, .long x4), (6, .int x6)]) hC dX12_findRegret_58 rfl (by decide) rfl ?_
            refine g_aload_n hC dX12_findRegret_59 rfl 1 rfl ?_
            refine g_getJ (k := 38) hC cr12 ui_12 ht1 ht2 (by decide) fl_X12_392 rfl rfl dX12_findRegret_60 ?_
            refine g_lstore (lv' := [(4, .long (q2.2.1 t 38)), (2, .long (q2.2.1 t 37)), (0, .ref (E.2.2.1 t)), (1, .int x1), (6, .int x6)]) hC dX12_findRegret_63 (by decide) rfl ?_
            exact g_sub [2, 3, 1, 0, 4] rfl (k_X12_findRegret_65 hC hO hR hf t ht1 ht2 x1 (q2.2.1 t 37) (q2.2.1 t 38) x6 (f_X12_findRegret_8 t x1 n) ih q2 h)
set_option maxHeartbeats 4000000 in
set_option maxRecDepth 100000 in
theorem k_X12_findRegret_0 {E : ET} {F : FT} {fo : Option HS} (hC : Cx E F 7 cX12_findRegret RX12 GT) (hO : Ro F rm_X12_findRegret) (hR : RV E F fo) (hf : fo ≠ none) (t : Nat) (ht1 : kd t = 12) (ht2 : AL E t) (x1 : Int32) (σ : HS) (h : f_X12_findRegret t x1 σ = fo) : G E F 0 [(0, .ref (E.2.2.1 t)), (1, .int x1)] [] σ := by
    refine g_lconst (v := 0) hC dX12_findRegret_0 (by decide) ?_
    refine g_lstore_n (lv' := [(2, .long 0), (0, .ref (E.2.2.1 t)), (1, .int x1)]) hC dX12_findRegret_1 rfl (by decide) rfl ?_
    refine g_lconst (v := 1) hC dX12_findRegret_2 (by decide) ?_
    refine g_lstore (lv' := [(4, .long 1), (2, .long 0), (0, .ref (E.2.2.1 t)), (1, .int x1)]) hC dX12_findRegret_3 (by decide) rfl ?_
    refine g_iconst (v := 0) hC dX12_findRegret_5 (by decide) ?_
    refine g_istore (lv' := [(6, .int 0), (4, .long 1), (2, .long 0), (0, .ref (E.2.2.1 t)), (1, .int x1)]) hC dX12_findRegret_6 (by decide) rfl ?_
    exact g_sub [3, 4, 2, 1, 0] rfl (k_X12_findRegret_8 hC hO hR hf t ht1 ht2 x1 FU 0 1 0 σ h)
theorem xk_X12_findRegret (R : Room) (h1 : 6 + 1 ≤ R.frames) (h2 : 254 ≤ R.locals) : xw R yX12_findRegret w_X12_findRegret GT cX12_findRegret 7 none rm_X12_findRegret 1 := ⟨rfl, rfl, rfl, h1, h2, ⟨by decide, by decide⟩, by decide +kernel⟩
theorem c_X12_findRegret (E : ET) (hE : EO E) (t : Nat) (ht1 : kd t = 12) (ht2 : AL E t) (x1 : Int32) (σ : HS) (hn : f_X12_findRegret t x1 σ ≠ none) : CoV E yX12_findRegret w_X12_findRegret rm_X12_findRegret [.ref (E.2.2.1 t), .int x1] σ (f_X12_findRegret t x1 σ) := CoV.of (lv := [(0, .ref (E.2.2.1 t)), (1, .int x1)]) hE (plainFor_of_name (by decide)) rfl (Nat.le_of_ble_eq_true rfl) rfl (fun F hC hO hR => k_X12_findRegret_0 hC hO hR hn t ht1 ht2 x1 σ rfl)
def rm_X12_regret : Room := { frames := 7, cells := 0, slots := 0, locals := 254 }
theorem wc_X12_findRegret : Cond.code yX12_findRegret cX12_findRegret 7 none ∈ GT := gtr_44 _ (List.mem_of_getElem? (i := 1) rfl)
theorem gc_X12_402 : GoodIn GT (wsV RX12 402 RX12 yX12_findRegret w_X12_findRegret) := gi_V (gtr_43 _ (List.mem_of_getElem? (i := 22) rfl)) (gtr_43 _ (List.mem_of_getElem? (i := 23) rfl)) (gtr_44 _ (List.mem_of_getElem? (i := 0) rfl)) (gtr_1 _ (List.mem_of_getElem? (i := 5) rfl)) wc_X12_findRegret
set_option maxHeartbeats 4000000 in
set_option maxRecDepth 100000 in
theorem k_X12_regret_29 {E : ET} {F : FT} {fo : Option (Int64 × HS)} (hC : Cx E F 5 cX12_regret RX12 GT) (hO : Ro F rm_X12_regret) (hR : RJ E F fo) (hf : fo ≠ none) (σ : HS) (h : f_X12_regret_29 σ = fo) : G E F 29 [] [] σ := by
    refine g_ldc2 (v := (-1)) hC cl_X12_258 dX12_regret_29 ?_
    exact g_lret hC hR dX12_regret_32 h
set_option maxHeartbeats 4000000 in
set_option maxRecDepth 100000 in
theorem k_X12_regret_69 {E : ET} {F : FT} {fo : Option (Int64 × HS)} (hC : Cx E F 5 cX12_regret RX12 GT) (hO : Ro F rm_X12_regret) (hR : RJ E F fo) (hf : fo ≠ none) (s0 : Int64) (σ : HS) (h : f_X12_regret_69 s0 σ = fo) : G E F 69 [] [.long s0] σ := by
    exact g_lret hC hR dX12_regret_69 h
set_option maxHeartbeats 4000000 in
set_option maxRecDepth 100000 in
theorem k_X12_regret_0 {E : ET} {F : FT} {fo : Option (Int64 × HS)} (hC : Cx E F 5 cX12_regret RX12 GT) (hO : Ro F rm_X12_regret) (hR : RJ E F fo) (hf : fo ≠ none) (t : Nat) (ht1 : kd t = 12) (ht2 : AL E t) (x1 : Int32) (x2 : Int32) (σ : HS) (h : f_X12_regret t x1 x2 σ = fo) : G E F 0 [(0, .ref (E.2.2.1 t)), (1, .int x1), (2, .int x2)] [] σ := by
    refine g_aload_n hC dX12_regret_0 rfl 0 rfl ?_
    refine g_iconst (v := 0) hC dX12_regret_1 (by decide) ?_
    refine g_putI (k := 0) hC cr12 ui_12 tyX12_ok nmX12 ht1 ht2 (by decide) fl_X12_1 rfl rfl rfl rfl dX12_regret_2 ?_
    refine g_aload_n hC dX12_regret_5 rfl 0 rfl ?_
    refine g_iload_n hC dX12_regret_6 rfl 1 rfl ?_
    obtain ⟨q1, hq1, h⟩ := bd_of h hf
    refine g_cVI (As := [.int x1]) hC hO (c_X12_isThingIn _ hC.2.2.2.2.2.2.1 t ht1 ht2 x1 (sI σ t 0 0) (nn_of hq1)) gc_X12_383 (xk_X12_isThingIn _ (Nat.le_of_ble_eq_true rfl) (Nat.le_of_ble_eq_true rfl)) cr12 ht1 ht2 rfl (Nat.le_of_ble_eq_true rfl) dX12_regret_7 hq1 ?_
    refine g_if_eq (tgt := 29) hC dX12_regret_10 (by decide) h (fun c10 h => ?_) (fun c10 h => ?_)
    · exact g_sub [] rfl (k_X12_regret_29 hC hO hR hf q1.2 h)
    · refine g_iload_n hC dX12_regret_13 rfl 2 rfl ?_
      refine g_iconst (v := 0) hC dX12_regret_14 (by decide) ?_
      refine g_iconst (v := 1) hC dX12_regret_15 (by decide) ?_
      obtain ⟨q2, hq2, h⟩ := bd_of h hf
      refine g_cSI (As := [.int x2, .int 0, .int 1]) hC hO (c_X12_within _ hC.2.2.2.2.2.2.1 x2 0 1 q1.2 (nn_of hq2)) gc_X12_213 (xk_X12_within _ (Nat.le_of_ble_eq_true rfl) (Nat.le_of_ble_eq_true rfl)) rfl (Nat.le_of_ble_eq_true rfl) dX12_regret_16 hq2 ?_
      refine g_if_eq (tgt := 29) hC dX12_regret_19 (by decide) h (fun c19 h => ?_) (fun c19 h => ?_)
      · exact g_sub [] rfl (k_X12_regret_29 hC hO hR hf q2.2 h)
      · refine g_aload_n hC dX12_regret_22 rfl 0 rfl ?_
        obtain ⟨q3, hq3, h⟩ := bd_of h hf
        refine g_cVI (As := []) hC hO (c_X12_findNow _ hC.2.2.2.2.2.2.1 t ht1 ht2 q2.2 (nn_of hq3)) gc_X12_361 (xk_X12_findNow _ (Nat.le_of_ble_eq_true rfl) (Nat.le_of_ble_eq_true rfl)) cr12 ht1 ht2 rfl (Nat.le_of_ble_eq_true rfl) dX12_regret_23 hq3 ?_
        refine g_if_ne (tgt := 33) hC dX12_regret_26 (by decide) h (fun c26 h => ?_) (fun c26 h => ?_)
        · refine g_aload_n hC dX12_regret_33 rfl 0 rfl ?_
          refine g_iload_n hC dX12_regret_34 rfl 1 rfl ?_
          obtain ⟨q4, hq4, h⟩ := bd_of h hf
          refine g_cVV (As := [.int x1]) hC hO (c_X12_findRegret _ hC.2.2.2.2.2.2.1 t ht1 ht2 x1 q3.2 (nn_of hq4)) gc_X12_402 (xk_X12_findRegret _ (Nat.le_of_ble_eq_true rfl) (Nat.le_of_ble_eq_true rfl)) cr12 ht1 ht2 rfl (Nat.le_of_ble_eq_true rfl) dX12_regret_35 hq4 ?_
          refine g_aload_n hC dX12_regret_38 rfl 0 rfl ?_
          refine g_getJ (k := 37) hC cr12 ui_12 ht1 ht2 (by decide) fl_X12_396 rfl rfl dX12_regret_39 ?_
          refine g_aload_n hC dX12_regret_42 rfl 0 rfl ?_
          refine g_getJ (k := 38) hC cr12 ui_12 ht1 ht2 (by decide) fl_X12_392 rfl rfl dX12_regret_43 ?_
          obtain ⟨q5, hq5, h⟩ := bd_of h hf
          refine g_cSJ (As := [.long (q4.2.1 t 37), .long (q4.2.1 t 38)]) hC hO (c_X12_common _ hC.2.2.2.2.2.2.1 (q4.2.1 t 37) (q4.2.1 t 38) q4 (nn_of hq5)) gc_X12_281 (xk_X12_common _ (Nat.le_of_ble_eq_true rfl) (Nat.le_of_ble_eq_true rfl)) rfl (Nat.le_of_ble_eq_true rfl) dX12_regret_46 hq5 ?_
          refine g_lstore_n (lv' := [(3, .long q5.1), (0, .ref (E.2.2.1 t)), (1, .int x1), (2, .int x2)]) hC dX12_regret_49 rfl (by decide) rfl ?_
          refine g_iload_n hC dX12_regret_50 rfl 3 rfl ?_
          refine g_if_ne (tgt := 63) hC dX12_regret_51 (by decide) h (fun c51 h => ?_) (fun c51 h => ?_)
          · refine g_aload_n hC dX12_regret_63 rfl 1 rfl ?_
            refine g_getJ (k := 38) hC cr12 ui_12 ht1 ht2 (by decide) fl_X12_392 rfl rfl dX12_regret_64 ?_
            refine g_lload_n hC dX12_regret_67 rfl 0 rfl ?_
            obtain ⟨hz68, h⟩ := nz_of h hf
            refine g_ldiv hC dX12_regret_68 hz68 ?_
            exact g_sub [] rfl (k_X12_regret_69 hC hO hR hf ((q5.2.2.1 t 38) / q5.1) q5.2 h)
          · refine g_aload_n hC dX12_regret_54 rfl 1 rfl ?_
            refine g_getJ (k := 37) hC cr12 ui_12 ht1 ht2 (by decide) fl_X12_396 rfl rfl dX12_regret_55 ?_
            refine g_lload_n hC dX12_regret_58 rfl 0 rfl ?_
            obtain ⟨hz59, h⟩ := nz_of h hf
            refine g_ldiv hC dX12_regret_59 hz59 ?_
            refine g_goto (tgt := 69) hC dX12_regret_60 (by decide) ?_
            exact g_sub [] rfl (k_X12_regret_69 hC hO hR hf ((q5.2.2.1 t 37) / q5.1) q5.2 h)
        · exact g_sub [] rfl (k_X12_regret_29 hC hO hR hf q3.2 h)
theorem xk_X12_regret (R : Room) (h1 : 7 + 1 ≤ R.frames) (h2 : 290 ≤ R.locals) : xw R yX12_regret w_X12_regret GT cX12_regret 5 (some .long) rm_X12_regret 2 := ⟨rfl, rfl, rfl, h1, h2, ⟨by decide, by decide⟩, by decide +kernel⟩
theorem c_X12_regret (E : ET) (hE : EO E) (t : Nat) (ht1 : kd t = 12) (ht2 : AL E t) (x1 : Int32) (x2 : Int32) (σ : HS) (hn : f_X12_regret t x1 x2 σ ≠ none) : CoJ E yX12_regret w_X12_regret rm_X12_regret [.ref (E.2.2.1 t), .int x1, .int x2] σ (f_X12_regret t x1 x2 σ) := CoJ.of (lv := [(0, .ref (E.2.2.1 t)), (1, .int x1), (2, .int x2)]) hE (plainFor_of_name (by decide)) rfl (Nat.le_of_ble_eq_true rfl) rfl (fun F hC hO hR => k_X12_regret_0 hC hO hR hn t ht1 ht2 x1 x2 σ rfl)
