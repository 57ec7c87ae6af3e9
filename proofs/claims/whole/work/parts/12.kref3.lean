def rm_X12_least : Room := { frames := 7, cells := 0, slots := 0, locals := 254 }
set_option maxHeartbeats 4000000 in
set_option maxRecDepth 100000 in
theorem k_X12_least_81 {E : ET} {F : FT} {fo : Option (Int32 × HS)} (hC : Cx E F 7 cX12_least RX12 GT) (hO : Ro F rm_X12_least) (hR : RI E F .int fo) (hf : fo ≠ none) (t : Nat) (ht1 : kd t = 12) (ht2 : AL E t) (x1 : Int32) (x2 : Int64) (x4 : Int64) (x6 : Int32) (r24 : Int32 → Int64 → Int64 → Int32 → HS → Option (Int32 × HS)) (h24 : ∀ (x1 : Int32) (x2 : Int64) (x4 : Int64) (x6 : Int32) (σ : HS), r24 x1 x2 x4 x6 σ = fo → G E F 24 [(0, .ref (E.2.2.1 t)), (1, .int x1), (2, .long x2), (4, .long x4), (6, .int x6)] [] σ) (σ : HS) (h : f_X12_least_81 r24 t x1 x2 x4 x6 σ = fo) : G E F 81 [(0, .ref (E.2.2.1 t)), (1, .int x1), (2, .long x2), (4, .long x4), (6, .int x6)] [] σ := by
    refine g_iinc (v := x6 + 1) (lv' := [(6, .int (x6 + 1)), (0, .ref (E.2.2.1 t)), (1, .int x1), (2, .long x2), (4, .long x4)]) hC dX12_least_81 4 rfl rfl (by decide) rfl ?_
    refine g_goto (tgt := 24) hC dX12_least_84 (by decide) ?_
    exact g_sub [1, 2, 3, 4, 0] rfl (h24 x1 x2 x4 (x6 + 1) σ h)
set_option maxHeartbeats 4000000 in
set_option maxRecDepth 100000 in
theorem k_X12_least_67 {E : ET} {F : FT} {fo : Option (Int32 × HS)} (hC : Cx E F 7 cX12_least RX12 GT) (hO : Ro F rm_X12_least) (hR : RI E F .int fo) (hf : fo ≠ none) (t : Nat) (ht1 : kd t = 12) (ht2 : AL E t) (x6 : Int32) (r24 : Int32 → Int64 → Int64 → Int32 → HS → Option (Int32 × HS)) (h24 : ∀ (x1 : Int32) (x2 : Int64) (x4 : Int64) (x6 : Int32) (σ : HS), r24 x1 x2 x4 x6 σ = fo → G E F 24 [(0, .ref (E.2.2.1 t)), (1, .int x1), (2, .long x2), (4, .long x4), (6, .int x6)] [] σ) (σ : HS) (h : f_X12_least_67 r24 t x6 σ = fo) : G E F 67 [(0, .ref (E.2.2.1 t)), (6, .int x6)] [] σ := by
    refine g_iload hC dX12_least_67 1 rfl ?_
    refine g_istore_n (lv' := [(1, .int x6), (0, .ref (E.2.2.1 t)), (6, .int x6)]) hC dX12_least_69 rfl (by decide) rfl ?_
    refine g_aload_n hC dX12_least_70 rfl 1 rfl ?_
    refine g_getJ (k := 37) hC cr12 ui_12 ht1 ht2 (by decide) fl_X12_396 rfl rfl dX12_least_71 ?_
    refine g_lstore_n (lv' := [(2, .long (σ.2.1 t 37)), (1, .int x6), (0, .ref (E.2.2.1 t)), (6, .int x6)]) hC dX12_least_74 rfl (by decide) rfl ?_
    refine g_aload_n hC dX12_least_75 rfl 2 rfl ?_
    refine g_getJ (k := 38) hC cr12 ui_12 ht1 ht2 (by decide) fl_X12_392 rfl rfl dX12_least_76 ?_
    refine g_lstore (lv' := [(4, .long (σ.2.1 t 38)), (2, .long (σ.2.1 t 37)), (1, .int x6), (0, .ref (E.2.2.1 t)), (6, .int x6)]) hC dX12_least_79 (by decide) rfl ?_
    exact g_sub [3, 2, 1, 0, 4] rfl (k_X12_least_81 hC hO hR hf t ht1 ht2 x6 (σ.2.1 t 37) (σ.2.1 t 38) x6 r24 h24 σ h)
set_option maxHeartbeats 4000000 in
set_option maxRecDepth 100000 in
theorem k_X12_least_24 {E : ET} {F : FT} {fo : Option (Int32 × HS)} (hC : Cx E F 7 cX12_least RX12 GT) (hO : Ro F rm_X12_least) (hR : RI E F .int fo) (hf : fo ≠ none) (t : Nat) (ht1 : kd t = 12) (ht2 : AL E t) : ∀ (n : Nat) (x1 : Int32) (x2 : Int64) (x4 : Int64) (x6 : Int32) (σ : HS), f_X12_least_24 t n x1 x2 x4 x6 σ = fo → G E F 24 [(0, .ref (E.2.2.1 t)), (1, .int x1), (2, .long x2), (4, .long x4), (6, .int x6)] [] σ := by
  intro n
  induction n with
  | zero =>
    intro x1 x2 x4 x6 σ h
    exact absurd (h.symm.trans rfl) hf
  | succ n ih =>
    intro x1 x2 x4 x6 σ h
    refine g_iload hC dX12_least_24 4 rfl ?_
    refine g_bipush (v := 8) hC dX12_least_26 (by decide) ?_
    refine g_icmp_ge (tgt := 87) hC dX12_least_28 (by decide) h (fun c28 h => ?_) (fun c28 h => ?_)
    · refine g_iload_n hC dX12_least_87 rfl 1 rfl ?_
      exact g_iret hC hR dX12_least_88 rfl h
    · refine g_aload_n hC dX12_least_31 rfl 0 rfl ?_
      refine g_iload hC dX12_least_32 4 rfl ?_
      obtain ⟨q1, hq1, h⟩ := bd_of h hf
      refine g_cVI (As := [.int x6]) hC hO (c_X12_isIn _ hC.2.2.2.2.2.2.1 t ht1 ht2 x6 σ (nn_of hq1)) gc_X12_223 (xk_X12_isIn _ (Nat.le_of_ble_eq_true rfl) (Nat.le_of_ble_eq_true rfl)) cr12 ht1 ht2 rfl (Nat.le_of_ble_eq_true rfl) dX12_least_34 hq1 ?_
      refine g_if_eq (tgt := 81) hC dX12_least_37 (by decide) h (fun c37 h => ?_) (fun c37 h => ?_)
      · exact g_sub [0, 1, 2, 3, 4] rfl (k_X12_least_81 hC hO hR hf t ht1 ht2 x1 x2 x4 x6 (f_X12_least_24 t n) ih q1.2 h)
      · refine g_aload_n hC dX12_least_40 rfl 0 rfl ?_
        refine g_iload hC dX12_least_41 4 rfl ?_
        obtain ⟨q2, hq2, h⟩ := bd_of h hf
        refine g_cVV (As := [.int x6]) hC hO (c_X12_findRegret _ hC.2.2.2.2.2.2.1 t ht1 ht2 x6 q1.2 (nn_of hq2)) gc_X12_402 (xk_X12_findRegret _ (Nat.le_of_ble_eq_true rfl) (Nat.le_of_ble_eq_true rfl)) cr12 ht1 ht2 rfl (Nat.le_of_ble_eq_true rfl) dX12_least_43 hq2 ?_
        refine g_iload_n hC dX12_least_46 rfl 1 rfl ?_
        refine g_if_lt (tgt := 67) hC dX12_least_47 (by decide) h (fun c47 h => ?_) (fun c47 h => ?_)
        · exact g_sub [0, 4] rfl (k_X12_least_67 hC hO hR hf t ht1 ht2 x6 (f_X12_least_24 t n) ih q2 h)
        · refine g_aload_n hC dX12_least_50 rfl 0 rfl ?_
          refine g_getJ (k := 37) hC cr12 ui_12 ht1 ht2 (by decide) fl_X12_396 rfl rfl dX12_least_51 ?_
          refine g_lload hC dX12_least_54 3 rfl ?_
          refine g_lmul hC dX12_least_56 ?_
          refine g_lload_n hC dX12_least_57 rfl 2 rfl ?_
          refine g_aload_n hC dX12_least_58 rfl 0 rfl ?_
          refine g_getJ (k := 38) hC cr12 ui_12 ht1 ht2 (by decide) fl_X12_392 rfl rfl dX12_least_59 ?_
          refine g_lmul hC dX12_least_62 ?_
          refine g_lc_ge (tgt := 81) hC dX12_least_63 dX12_least_64 (by decide) h (fun c63 h => ?_) (fun c63 h => ?_)
          · exact g_sub [0, 1, 2, 3, 4] rfl (k_X12_least_81 hC hO hR hf t ht1 ht2 x1 x2 x4 x6 (f_X12_least_24 t n) ih q2 h)
          · exact g_sub [0, 4] rfl (k_X12_least_67 hC hO hR hf t ht1 ht2 x6 (f_X12_least_24 t n) ih q2 h)
set_option maxHeartbeats 4000000 in
set_option maxRecDepth 100000 in
theorem k_X12_least_0 {E : ET} {F : FT} {fo : Option (Int32 × HS)} (hC : Cx E F 7 cX12_least RX12 GT) (hO : Ro F rm_X12_least) (hR : RI E F .int fo) (hf : fo ≠ none) (t : Nat) (ht1 : kd t = 12) (ht2 : AL E t) (σ : HS) (h : f_X12_least t σ = fo) : G E F 0 [(0, .ref (E.2.2.1 t))] [] σ := by
    refine g_aload_n hC dX12_least_0 rfl 0 rfl ?_
    refine g_iconst (v := 0) hC dX12_least_1 (by decide) ?_
    refine g_putI (k := 0) hC cr12 ui_12 tyX12_ok nmX12 ht1 ht2 (by decide) fl_X12_1 rfl rfl rfl rfl dX12_least_2 ?_
    refine g_aload_n hC dX12_least_5 rfl 0 rfl ?_
    obtain ⟨q1, hq1, h⟩ := bd_of h hf
    refine g_cVI (As := []) hC hO (c_X12_findNow _ hC.2.2.2.2.2.2.1 t ht1 ht2 (sI σ t 0 0) (nn_of hq1)) gc_X12_361 (xk_X12_findNow _ (Nat.le_of_ble_eq_true rfl) (Nat.le_of_ble_eq_true rfl)) cr12 ht1 ht2 rfl (Nat.le_of_ble_eq_true rfl) dX12_least_6 hq1 ?_
    refine g_if_ne (tgt := 14) hC dX12_least_9 (by decide) h (fun c9 h => ?_) (fun c9 h => ?_)
    · refine g_iconst (v := (-1)) hC dX12_least_14 (by decide) ?_
      refine g_istore_n (lv' := [(1, .int (-1)), (0, .ref (E.2.2.1 t))]) hC dX12_least_15 rfl (by decide) rfl ?_
      refine g_lconst (v := 0) hC dX12_least_16 (by decide) ?_
      refine g_lstore_n (lv' := [(2, .long 0), (1, .int (-1)), (0, .ref (E.2.2.1 t))]) hC dX12_least_17 rfl (by decide) rfl ?_
      refine g_lconst (v := 1) hC dX12_least_18 (by decide) ?_
      refine g_lstore (lv' := [(4, .long 1), (2, .long 0), (1, .int (-1)), (0, .ref (E.2.2.1 t))]) hC dX12_least_19 (by decide) rfl ?_
      refine g_iconst (v := 0) hC dX12_least_21 (by decide) ?_
      refine g_istore (lv' := [(6, .int 0), (4, .long 1), (2, .long 0), (1, .int (-1)), (0, .ref (E.2.2.1 t))]) hC dX12_least_22 (by decide) rfl ?_
      exact g_sub [4, 3, 2, 1, 0] rfl (k_X12_least_24 hC hO hR hf t ht1 ht2 FU (-1) 0 1 0 q1.2 h)
    · refine g_iconst (v := (-1)) hC dX12_least_12 (by decide) ?_
      exact g_iret hC hR dX12_least_13 rfl h
theorem xk_X12_least (R : Room) (h1 : 7 + 1 ≤ R.frames) (h2 : 292 ≤ R.locals) : xw R yX12_least w_X12_least GT cX12_least 7 (some .int) rm_X12_least 0 := ⟨rfl, rfl, rfl, h1, h2, ⟨by decide, by decide⟩, by decide +kernel⟩
theorem c_X12_least (E : ET) (hE : EO E) (t : Nat) (ht1 : kd t = 12) (ht2 : AL E t) (σ : HS) (hn : f_X12_least t σ ≠ none) : CoI E yX12_least w_X12_least rm_X12_least [.ref (E.2.2.1 t)] σ (f_X12_least t σ) := CoI.of (lv := [(0, .ref (E.2.2.1 t))]) hE (plainFor_of_name (by decide)) rfl (Nat.le_of_ble_eq_true rfl) rfl (fun F hC hO hR => k_X12_least_0 hC hO hR hn t ht1 ht2 σ rfl)
def rm_X12_best : Room := { frames := 8, cells := 0, slots := 0, locals := 288 }
theorem wc_X12_sureBest : Cond.code yX12_sureBest cX12_sureBest 4 (some .int) ∈ GT := gtr_42 _ (List.mem_of_getElem? (i := 21) rfl)
theorem gc_X12_408 : GoodIn GT (wsV RX12 408 RX12 yX12_sureBest w_X12_sureBest) := gi_V (gtr_42 _ (List.mem_of_getElem? (i := 18) rfl)) (gtr_42 _ (List.mem_of_getElem? (i := 19) rfl)) (gtr_42 _ (List.mem_of_getElem? (i := 20) rfl)) (gtr_1 _ (List.mem_of_getElem? (i := 5) rfl)) wc_X12_sureBest
theorem wc_X12_mayBest : Cond.code yX12_mayBest cX12_mayBest 4 (some .int) ∈ GT := gtr_41 _ (List.mem_of_getElem? (i := 21) rfl)
theorem gc_X12_405 : GoodIn GT (wsV RX12 405 RX12 yX12_mayBest w_X12_mayBest) := gi_V (gtr_41 _ (List.mem_of_getElem? (i := 18) rfl)) (gtr_41 _ (List.mem_of_getElem? (i := 19) rfl)) (gtr_41 _ (List.mem_of_getElem? (i := 20) rfl)) (gtr_1 _ (List.mem_of_getElem? (i := 5) rfl)) wc_X12_mayBest
set_option maxHeartbeats 4000000 in
set_option maxRecDepth 100000 in
theorem k_X12_best_21 {E : ET} {F : FT} {fo : Option (Int32 × HS)} (hC : Cx E F 2 cX12_best RX12 GT) (hO : Ro F rm_X12_best) (hR : RI E F .int fo) (hf : fo ≠ none) (σ : HS) (h : f_X12_best_21 σ = fo) : G E F 21 [] [] σ := by
    refine g_iconst (v := (-1)) hC dX12_best_21 (by decide) ?_
    exact g_iret hC hR dX12_best_22 rfl h
set_option maxHeartbeats 4000000 in
set_option maxRecDepth 100000 in
theorem k_X12_best_40 {E : ET} {F : FT} {fo : Option (Int32 × HS)} (hC : Cx E F 2 cX12_best RX12 GT) (hO : Ro F rm_X12_best) (hR : RI E F .int fo) (hf : fo ≠ none) (s0 : Int32) (σ : HS) (h : f_X12_best_40 s0 σ = fo) : G E F 40 [] [.int s0] σ := by
    exact g_iret hC hR dX12_best_40 rfl h
set_option maxHeartbeats 4000000 in
set_option maxRecDepth 100000 in
theorem k_X12_best_0 {E : ET} {F : FT} {fo : Option (Int32 × HS)} (hC : Cx E F 2 cX12_best RX12 GT) (hO : Ro F rm_X12_best) (hR : RI E F .int fo) (hf : fo ≠ none) (t : Nat) (ht1 : kd t = 12) (ht2 : AL E t) (x1 : Int32) (σ : HS) (h : f_X12_best t x1 σ = fo) : G E F 0 [(0, .ref (E.2.2.1 t)), (1, .int x1)] [] σ := by
    refine g_aload_n hC dX12_best_0 rfl 0 rfl ?_
    refine g_iconst (v := 0) hC dX12_best_1 (by decide) ?_
    refine g_putI (k := 0) hC cr12 ui_12 tyX12_ok nmX12 ht1 ht2 (by decide) fl_X12_1 rfl rfl rfl rfl dX12_best_2 ?_
    refine g_iload_n hC dX12_best_5 rfl 1 rfl ?_
    refine g_iconst (v := 0) hC dX12_best_6 (by decide) ?_
    refine g_iconst (v := 1) hC dX12_best_7 (by decide) ?_
    obtain ⟨q1, hq1, h⟩ := bd_of h hf
    refine g_cSI (As := [.int x1, .int 0, .int 1]) hC hO (c_X12_within _ hC.2.2.2.2.2.2.1 x1 0 1 (sI σ t 0 0) (nn_of hq1)) gc_X12_213 (xk_X12_within _ (Nat.le_of_ble_eq_true rfl) (Nat.le_of_ble_eq_true rfl)) rfl (Nat.le_of_ble_eq_true rfl) dX12_best_8 hq1 ?_
    refine g_if_eq (tgt := 21) hC dX12_best_11 (by decide) h (fun c11 h => ?_) (fun c11 h => ?_)
    · exact g_sub [] rfl (k_X12_best_21 hC hO hR hf q1.2 h)
    · refine g_aload_n hC dX12_best_14 rfl 0 rfl ?_
      obtain ⟨q2, hq2, h⟩ := bd_of h hf
      refine g_cVI (As := []) hC hO (c_X12_findNow _ hC.2.2.2.2.2.2.1 t ht1 ht2 q1.2 (nn_of hq2)) gc_X12_361 (xk_X12_findNow _ (Nat.le_of_ble_eq_true rfl) (Nat.le_of_ble_eq_true rfl)) cr12 ht1 ht2 rfl (Nat.le_of_ble_eq_true rfl) dX12_best_15 hq2 ?_
      refine g_if_ne (tgt := 23) hC dX12_best_18 (by decide) h (fun c18 h => ?_) (fun c18 h => ?_)
      · refine g_iload_n hC dX12_best_23 rfl 1 rfl ?_
        refine g_if_ne (tgt := 35) hC dX12_best_24 (by decide) h (fun c24 h => ?_) (fun c24 h => ?_)
        · refine g_aload_n hC dX12_best_35 rfl 0 rfl ?_
          refine g_iconst (v := 0) hC dX12_best_36 (by decide) ?_
          obtain ⟨q3, hq3, h⟩ := bd_of h hf
          refine g_cVI (As := [.int 0]) hC hO (c_X12_sureBest _ hC.2.2.2.2.2.2.1 t ht1 ht2 0 q2.2 (nn_of hq3)) gc_X12_408 (xk_X12_sureBest _ (Nat.le_of_ble_eq_true rfl) (Nat.le_of_ble_eq_true rfl)) cr12 ht1 ht2 rfl (Nat.le_of_ble_eq_true rfl) dX12_best_37 hq3 ?_
          exact g_sub [] rfl (k_X12_best_40 hC hO hR hf q3.1 q3.2 h)
        · refine g_aload_n hC dX12_best_27 rfl 0 rfl ?_
          refine g_iconst (v := 0) hC dX12_best_28 (by decide) ?_
          obtain ⟨q4, hq4, h⟩ := bd_of h hf
          refine g_cVI (As := [.int 0]) hC hO (c_X12_mayBest _ hC.2.2.2.2.2.2.1 t ht1 ht2 0 q2.2 (nn_of hq4)) gc_X12_405 (xk_X12_mayBest _ (Nat.le_of_ble_eq_true rfl) (Nat.le_of_ble_eq_true rfl)) cr12 ht1 ht2 rfl (Nat.le_of_ble_eq_true rfl) dX12_best_29 hq4 ?_
          refine g_goto (tgt := 40) hC dX12_best_32 (by decide) ?_
          exact g_sub [] rfl (k_X12_best_40 hC hO hR hf q4.1 q4.2 h)
      · exact g_sub [] rfl (k_X12_best_21 hC hO hR hf q2.2 h)
theorem xk_X12_best (R : Room) (h1 : 8 + 1 ≤ R.frames) (h2 : 321 ≤ R.locals) : xw R yX12_best w_X12_best GT cX12_best 2 (some .int) rm_X12_best 1 := ⟨rfl, rfl, rfl, h1, h2, ⟨by decide, by decide⟩, by decide +kernel⟩
theorem c_X12_best (E : ET) (hE : EO E) (t : Nat) (ht1 : kd t = 12) (ht2 : AL E t) (x1 : Int32) (σ : HS) (hn : f_X12_best t x1 σ ≠ none) : CoI E yX12_best w_X12_best rm_X12_best [.ref (E.2.2.1 t), .int x1] σ (f_X12_best t x1 σ) := CoI.of (lv := [(0, .ref (E.2.2.1 t)), (1, .int x1)]) hE (plainFor_of_name (by decide)) rfl (Nat.le_of_ble_eq_true rfl) rfl (fun F hC hO hR => k_X12_best_0 hC hO hR hn t ht1 ht2 x1 σ rfl)
def rm_X12_behind : Room := { frames := 8, cells := 0, slots := 0, locals := 288 }
theorem wc_X12_bits : Cond.code yX12_bits cX12_bits 3 (some .int) ∈ GT := gtr_46 _ (List.mem_of_getElem? (i := 22) rfl)
theorem gc_X12_411 : GoodIn GT (va_wsS RX12 411 yX12_bits w_X12_bits) := gi_S (gtr_46 _ (List.mem_of_getElem? (i := 20) rfl)) (gtr_46 _ (List.mem_of_getElem? (i := 21) rfl)) (gtr_1 _ (List.mem_of_getElem? (i := 5) rfl)) wc_X12_bits
set_option maxHeartbeats 4000000 in
set_option maxRecDepth 100000 in
theorem k_X12_behind_32 {E : ET} {F : FT} {fo : Option (Int32 × HS)} (hC : Cx E F 4 cX12_behind RX12 GT) (hO : Ro F rm_X12_behind) (hR : RI E F .int fo) (hf : fo ≠ none) (t : Nat) (ht1 : kd t = 12) (ht2 : AL E t) (s0 : Int32) (σ : HS) (h : f_X12_behind_32 t s0 σ = fo) : G E F 32 [(0, .ref (E.2.2.1 t))] [.int s0] σ := by
    refine g_istore_n (lv' := [(3, .int s0), (0, .ref (E.2.2.1 t))]) hC dX12_behind_32 rfl (by decide) rfl ?_
    refine g_aload_n hC dX12_behind_33 rfl 1 rfl ?_
    refine g_iconst (v := 0) hC dX12_behind_34 (by decide) ?_
    obtain ⟨q1, hq1, h⟩ := bd_of h hf
    refine g_cVV (As := [.int 0]) hC hO (c_X12_backTo _ hC.2.2.2.2.2.2.1 t ht1 ht2 0 σ (nn_of hq1)) gc_X12_335 (xk_X12_backTo _ (Nat.le_of_ble_eq_true rfl) (Nat.le_of_ble_eq_true rfl)) cr12 ht1 ht2 rfl (Nat.le_of_ble_eq_true rfl) dX12_behind_35 hq1 ?_
    refine g_iload_n hC dX12_behind_38 rfl 0 rfl ?_
    exact g_iret hC hR dX12_behind_39 rfl h
set_option maxHeartbeats 4000000 in
set_option maxRecDepth 100000 in
theorem k_X12_behind_0 {E : ET} {F : FT} {fo : Option (Int32 × HS)} (hC : Cx E F 4 cX12_behind RX12 GT) (hO : Ro F rm_X12_behind) (hR : RI E F .int fo) (hf : fo ≠ none) (t : Nat) (ht1 : kd t = 12) (ht2 : AL E t) (x1 : Int32) (x2 : Int32) (σ : HS) (h : f_X12_behind t x1 x2 σ = fo) : G E F 0 [(0, .ref (E.2.2.1 t)), (1, .int x1), (2, .int x2)] [] σ := by
    refine g_aload_n hC dX12_behind_0 rfl 0 rfl ?_
    refine g_iload_n hC dX12_behind_1 rfl 1 rfl ?_
    refine g_iload_n hC dX12_behind_2 rfl 2 rfl ?_
    obtain ⟨q1, hq1, h⟩ := bd_of h hf
    refine g_cVV (As := [.int x1, .int x2]) hC hO (c_X12_addsAbove _ hC.2.2.2.2.2.2.1 t ht1 ht2 x1 x2 σ (nn_of hq1)) gc_X12_329 (xk_X12_addsAbove _ (Nat.le_of_ble_eq_true rfl) (Nat.le_of_ble_eq_true rfl)) cr12 ht1 ht2 rfl (Nat.le_of_ble_eq_true rfl) dX12_behind_3 hq1 ?_
    refine g_aload_n hC dX12_behind_6 rfl 0 rfl ?_
    refine g_iconst (v := 1) hC dX12_behind_7 (by decide) ?_
    obtain ⟨q2, hq2, h⟩ := bd_of h hf
    refine g_cVV (As := [.int 1]) hC hO (c_X12_findMore _ hC.2.2.2.2.2.2.1 t ht1 ht2 1 q1 (nn_of hq2)) gc_X12_332 (xk_X12_findMore _ (Nat.le_of_ble_eq_true rfl) (Nat.le_of_ble_eq_true rfl)) cr12 ht1 ht2 rfl (Nat.le_of_ble_eq_true rfl) dX12_behind_8 hq2 ?_
    refine g_aload_n hC dX12_behind_11 rfl 0 rfl ?_
    refine g_getR (cj := 14) (k := 28) hC cr12 ui_12 ht1 ht2 (by decide) fl_X12_112 rfl rfl dX12_behind_12 h hf (fun a3 ea3 ka3 na3 h => ?_)
    refine g_iconst (v := 1) hC dX12_behind_15 (by decide) ?_
    refine g_iald hC ka3 na3 dX12_behind_16 h hf (fun h => ?_)
    refine g_if_ne (tgt := 24) hC dX12_behind_17 (by decide) h (fun c17 h => ?_) (fun c17 h => ?_)
    · refine g_aload_n hC dX12_behind_24 rfl 0 rfl ?_
      refine g_iconst (v := 1) hC dX12_behind_25 (by decide) ?_
      obtain ⟨q4, hq4, h⟩ := bd_of h hf
      refine g_cVI (As := [.int 1]) hC hO (c_X12_mayBest _ hC.2.2.2.2.2.2.1 t ht1 ht2 1 q2 (nn_of hq4)) gc_X12_405 (xk_X12_mayBest _ (Nat.le_of_ble_eq_true rfl) (Nat.le_of_ble_eq_true rfl)) cr12 ht1 ht2 rfl (Nat.le_of_ble_eq_true rfl) dX12_behind_26 hq4 ?_
      obtain ⟨q5, hq5, h⟩ := bd_of h hf
      refine g_cSI (As := [.int q4.1]) hC hO (c_X12_bits _ hC.2.2.2.2.2.2.1 q4.1 q4.2 (nn_of hq5)) gc_X12_411 (xk_X12_bits _ (Nat.le_of_ble_eq_true rfl) (Nat.le_of_ble_eq_true rfl)) rfl (Nat.le_of_ble_eq_true rfl) dX12_behind_29 hq5 ?_
      exact g_sub [0] rfl (k_X12_behind_32 hC hO hR hf t ht1 ht2 q5.1 q5.2 h)
    · refine g_iconst (v := 0) hC dX12_behind_20 (by decide) ?_
      refine g_goto (tgt := 32) hC dX12_behind_21 (by decide) ?_
      exact g_sub [0] rfl (k_X12_behind_32 hC hO hR hf t ht1 ht2 0 q2 h)
theorem xk_X12_behind (R : Room) (h1 : 8 + 1 ≤ R.frames) (h2 : 323 ≤ R.locals) : xw R yX12_behind w_X12_behind GT cX12_behind 4 (some .int) rm_X12_behind 2 := ⟨rfl, rfl, rfl, h1, h2, ⟨by decide, by decide⟩, by decide +kernel⟩
theorem c_X12_behind (E : ET) (hE : EO E) (t : Nat) (ht1 : kd t = 12) (ht2 : AL E t) (x1 : Int32) (x2 : Int32) (σ : HS) (hn : f_X12_behind t x1 x2 σ ≠ none) : CoI E yX12_behind w_X12_behind rm_X12_behind [.ref (E.2.2.1 t), .int x1, .int x2] σ (f_X12_behind t x1 x2 σ) := CoI.of (lv := [(0, .ref (E.2.2.1 t)), (1, .int x1), (2, .int x2)]) hE (plainFor_of_name (by decide)) rfl (Nat.le_of_ble_eq_true rfl) rfl (fun F hC hO hR => k_X12_behind_0 hC hO hR hn t ht1 ht2 x1 x2 σ rfl)
def rm_X12_next : Room := { frames := 9, cells := 0, slots := 0, locals := 323 }
theorem wc_X12_behind : Cond.code yX12_behind cX12_behind 4 (some .int) ∈ GT := gtr_46 _ (List.mem_of_getElem? (i := 19) rfl)
theorem gc_X12_414 : GoodIn GT (wsV RX12 414 RX12 yX12_behind w_X12_behind) := gi_V (gtr_46 _ (List.mem_of_getElem? (i := 16) rfl)) (gtr_46 _ (List.mem_of_getElem? (i := 17) rfl)) (gtr_46 _ (List.mem_of_getElem? (i := 18) rfl)) (gtr_1 _ (List.mem_of_getElem? (i := 5) rfl)) wc_X12_behind
set_option maxHeartbeats 4000000 in
set_option maxRecDepth 100000 in
theorem k_X12_next_21 {E : ET} {F : FT} {fo : Option (Int32 × HS)} (hC : Cx E F 10 cX12_next RX12 GT) (hO : Ro F rm_X12_next) (hR : RI E F .int fo) (hf : fo ≠ none) (σ : HS) (h : f_X12_next_21 σ = fo) : G E F 21 [] [] σ := by
    refine g_iconst (v := (-1)) hC dX12_next_21 (by decide) ?_
    exact g_iret hC hR dX12_next_22 rfl h
set_option maxHeartbeats 4000000 in
set_option maxRecDepth 100000 in
theorem k_X12_next_163 {E : ET} {F : FT} {fo : Option (Int32 × HS)} (hC : Cx E F 10 cX12_next RX12 GT) (hO : Ro F rm_X12_next) (hR : RI E F .int fo) (hf : fo ≠ none) (s0 : Int32) (σ : HS) (h : f_X12_next_163 s0 σ = fo) : G E F 163 [] [.int s0] σ := by
    exact g_iret hC hR dX12_next_163 rfl h
set_option maxHeartbeats 4000000 in
set_option maxRecDepth 100000 in
theorem k_X12_next_124 {E : ET} {F : FT} {fo : Option (Int32 × HS)} (hC : Cx E F 10 cX12_next RX12 GT) (hO : Ro F rm_X12_next) (hR : RI E F .int fo) (hf : fo ≠ none) (t : Nat) (ht1 : kd t = 12) (ht2 : AL E t) (x1 : Int32) (x2 : Int32) (x3 : Int32) (x4 : Int32) (x5 : Int32) (x6 : Int32) (r34 : Int32 → Int32 → Int32 → Int32 → HS → Option (Int32 × HS)) (h34 : ∀ (x2 : Int32) (x3 : Int32) (x4 : Int32) (x5 : Int32) (σ : HS), r34 x2 x3 x4 x5 σ = fo → G E F 34 [(0, .ref (E.2.2.1 t)), (1, .int x1), (2, .int x2), (3, .int x3), (4, .int x4), (5, .int x5)] [] σ) (r47 : Int32 → Int32 → Int32 → Int32 → HS → Option (Int32 × HS)) (h47 : ∀ (x2 : Int32) (x3 : Int32) (x4 : Int32) (x6 : Int32) (σ : HS), r47 x2 x3 x4 x6 σ = fo → G E F 47 [(0, .ref (E.2.2.1 t)), (1, .int x1), (2, .int x2), (3, .int x3), (4, .int x4), (5, .int x5), (6, .int x6)] [] σ) (σ : HS) (h : f_X12_next_124 r34 r47 t x1 x2 x3 x4 x5 x6 σ = fo) : G E F 124 [(0, .ref (E.2.2.1 t)), (1, .int x1), (2, .int x2), (3, .int x3), (4, .int x4), (5, .int x5), (6, .int x6)] [] σ := by
    refine g_iinc (v := x6 + 1) (lv' := [(6, .int (x6 + 1)), (0, .ref (E.2.2.1 t)), (1, .int x1), (2, .int x2), (3, .int x3), (4, .int x4), (5, .int x5)]) hC dX12_next_124 6 rfl rfl (by decide) rfl ?_
    refine g_goto (tgt := 47) hC dX12_next_127 (by decide) ?_
    exact g_sub [1, 2, 3, 4, 5, 6, 0] rfl (h47 x2 x3 x4 (x6 + 1) σ h)
set_option maxHeartbeats 4000000 in
set_option maxRecDepth 100000 in
theorem k_X12_next_106 {E : ET} {F : FT} {fo : Option (Int32 × HS)} (hC : Cx E F 10 cX12_next RX12 GT) (hO : Ro F rm_X12_next) (hR : RI E F .int fo) (hf : fo ≠ none) (t : Nat) (ht1 : kd t = 12) (ht2 : AL E t) (x1 : Int32) (x2 : Int32) (x3 : Int32) (x4 : Int32) (x5 : Int32) (x6 : Int32) (s0 : Int32) (r34 : Int32 → Int32 → Int32 → Int32 → HS → Option (Int32 × HS)) (h34 : ∀ (x2 : Int32) (x3 : Int32) (x4 : Int32) (x5 : Int32) (σ : HS), r34 x2 x3 x4 x5 σ = fo → G E F 34 [(0, .ref (E.2.2.1 t)), (1, .int x1), (2, .int x2), (3, .int x3), (4, .int x4), (5, .int x5)] [] σ) (r47 : Int32 → Int32 → Int32 → Int32 → HS → Option (Int32 × HS)) (h47 : ∀ (x2 : Int32) (x3 : Int32) (x4 : Int32) (x6 : Int32) (σ : HS), r47 x2 x3 x4 x6 σ = fo → G E F 47 [(0, .ref (E.2.2.1 t)), (1, .int x1), (2, .int x2), (3, .int x3), (4, .int x4), (5, .int x5), (6, .int x6)] [] σ) (σ : HS) (h : f_X12_next_106 r34 r47 t x1 x2 x3 x4 x5 x6 s0 σ = fo) : G E F 106 [(0, .ref (E.2.2.1 t)), (1, .int x1), (2, .int x2), (3, .int x3), (4, .int x4), (5, .int x5), (6, .int x6)] [.int s0] σ := by
    refine g_istore (lv' := [(9, .int s0), (0, .ref (E.2.2.1 t)), (1, .int x1), (2, .int x2), (3, .int x3), (4, .int x4), (5, .int x5), (6, .int x6)]) hC dX12_next_106 (by decide) rfl ?_
    refine g_iload hC dX12_next_108 0 rfl ?_
    refine g_iload_n hC dX12_next_110 rfl 3 rfl ?_
    refine g_icmp_ge (tgt := 124) hC dX12_next_111 (by decide) h (fun c111 h => ?_) (fun c111 h => ?_)
    · exact g_sub [1, 2, 3, 4, 5, 6, 7] rfl (k_X12_next_124 hC hO hR hf t ht1 ht2 x1 x2 x3 x4 x5 x6 r34 h34 r47 h47 σ h)
    · refine g_iload hC dX12_next_114 0 rfl ?_
      refine g_istore_n (lv' := [(2, .int s0), (9, .int s0), (0, .ref (E.2.2.1 t)), (1, .int x1), (3, .int x3), (4, .int x4), (5, .int x5), (6, .int x6)]) hC dX12_next_116 rfl (by decide) rfl ?_
      refine g_iload hC dX12_next_117 6 rfl ?_
      refine g_istore_n (lv' := [(3, .int x5), (2, .int s0), (9, .int s0), (0, .ref (E.2.2.1 t)), (1, .int x1), (4, .int x4), (5, .int x5), (6, .int x6)]) hC dX12_next_119 rfl (by decide) rfl ?_
      refine g_iload hC dX12_next_120 7 rfl ?_
      refine g_istore (lv' := [(4, .int x6), (3, .int x5), (2, .int s0), (9, .int s0), (0, .ref (E.2.2.1 t)), (1, .int x1), (5, .int x5), (6, .int x6)]) hC dX12_next_122 (by decide) rfl ?_
      exact g_sub [4, 5, 2, 1, 0, 6, 7] rfl (k_X12_next_124 hC hO hR hf t ht1 ht2 x1 s0 x5 x6 x5 x6 r34 h34 r47 h47 σ h)
set_option maxHeartbeats 4000000 in
set_option maxRecDepth 100000 in
theorem k_X12_next_47 {E : ET} {F : FT} {fo : Option (Int32 × HS)} (hC : Cx E F 10 cX12_next RX12 GT) (hO : Ro F rm_X12_next) (hR : RI E F .int fo) (hf : fo ≠ none) (t : Nat) (ht1 : kd t = 12) (ht2 : AL E t) (x1 : Int32) (x5 : Int32) (r34 : Int32 → Int32 → Int32 → Int32 → HS → Option (Int32 × HS)) (h34 : ∀ (x2 : Int32) (x3 : Int32) (x4 : Int32) (x5 : Int32) (σ : HS), r34 x2 x3 x4 x5 σ = fo → G E F 34 [(0, .ref (E.2.2.1 t)), (1, .int x1), (2, .int x2), (3, .int x3), (4, .int x4), (5, .int x5)] [] σ) : ∀ (n : Nat) (x2 : Int32) (x3 : Int32) (x4 : Int32) (x6 : Int32) (σ : HS), f_X12_next_47 t x1 x5 r34 n x2 x3 x4 x6 σ = fo → G E F 47 [(0, .ref (E.2.2.1 t)), (1, .int x1), (2, .int x2), (3, .int x3), (4, .int x4), (5, .int x5), (6, .int x6)] [] σ := by
  intro n
  induction n with
  | zero =>
    intro x2 x3 x4 x6 σ h
    exact absurd (h.symm.trans rfl) hf
  | succ n ih =>
    intro x2 x3 x4 x6 σ h
    refine g_iload hC dX12_next_47 6 rfl ?_
    refine g_bipush (v := 8) hC dX12_next_49 (by decide) ?_
    refine g_icmp_ge (tgt := 130) hC dX12_next_51 (by decide) h (fun c51 h => ?_) (fun c51 h => ?_)
    · refine g_iinc (v := x5 + 1) (lv' := [(5, .int (x5 + 1)), (0, .ref (E.2.2.1 t)), (1, .int x1), (2, .int x2), (3, .int x3), (4, .int x4), (6, .int x6)]) hC dX12_next_130 5 rfl rfl (by decide) rfl ?_
      refine g_goto (tgt := 34) hC dX12_next_133 (by decide) ?_
      exact g_sub [1, 2, 3, 4, 5, 0] rfl (h34 x2 x3 x4 (x5 + 1) σ h)
    · refine g_aload_n hC dX12_next_54 rfl 0 rfl ?_
      refine g_iload hC dX12_next_55 5 rfl ?_
      obtain ⟨q1, hq1, h⟩ := bd_of h hf
      refine g_cVI (As := [.int x5]) hC hO (c_X12_isIn _ hC.2.2.2.2.2.2.1 t ht1 ht2 x5 σ (nn_of hq1)) gc_X12_223 (xk_X12_isIn _ (Nat.le_of_ble_eq_true rfl) (Nat.le_of_ble_eq_true rfl)) cr12 ht1 ht2 rfl (Nat.le_of_ble_eq_true rfl) dX12_next_57 hq1 ?_
      refine g_if_eq (tgt := 124) hC dX12_next_60 (by decide) h (fun c60 h => ?_) (fun c60 h => ?_)
      · exact g_sub [0, 1, 2, 3, 4, 5, 6] rfl (k_X12_next_124 hC hO hR hf t ht1 ht2 x1 x2 x3 x4 x5 x6 r34 h34 (f_X12_next_47 t x1 x5 r34 n) ih q1.2 h)
      · refine g_aload_n hC dX12_next_63 rfl 0 rfl ?_
        refine g_iload hC dX12_next_64 6 rfl ?_
        obtain ⟨q2, hq2, h⟩ := bd_of h hf
        refine g_cVI (As := [.int x6]) hC hO (c_X12_isIn _ hC.2.2.2.2.2.2.1 t ht1 ht2 x6 q1.2 (nn_of hq2)) gc_X12_223 (xk_X12_isIn _ (Nat.le_of_ble_eq_true rfl) (Nat.le_of_ble_eq_true rfl)) cr12 ht1 ht2 rfl (Nat.le_of_ble_eq_true rfl) dX12_next_66 hq2 ?_
        refine g_if_eq (tgt := 124) hC dX12_next_69 (by decide) h (fun c69 h => ?_) (fun c69 h => ?_)
        · exact g_sub [0, 1, 2, 3, 4, 5, 6] rfl (k_X12_next_124 hC hO hR hf t ht1 ht2 x1 x2 x3 x4 x5 x6 r34 h34 (f_X12_next_47 t x1 x5 r34 n) ih q2.2 h)
        · refine g_aload_n hC dX12_next_72 rfl 0 rfl ?_
          refine g_iload hC dX12_next_73 5 rfl ?_
          refine g_iload hC dX12_next_75 6 rfl ?_
          obtain ⟨q3, hq3, h⟩ := bd_of h hf
          refine g_cVI (As := [.int x5, .int x6]) hC hO (c_X12_behind _ hC.2.2.2.2.2.2.1 t ht1 ht2 x5 x6 q2.2 (nn_of hq3)) gc_X12_414 (xk_X12_behind _ (Nat.le_of_ble_eq_true rfl) (Nat.le_of_ble_eq_true rfl)) cr12 ht1 ht2 rfl (Nat.le_of_ble_eq_true rfl) dX12_next_77 hq3 ?_
          refine g_istore (lv' := [(7, .int q3.1), (0, .ref (E.2.2.1 t)), (1, .int x1), (2, .int x2), (3, .int x3), (4, .int x4), (5, .int x5), (6, .int x6)]) hC dX12_next_80 (by decide) rfl ?_
          refine g_aload_n hC dX12_next_82 rfl 1 rfl ?_
          refine g_iload hC dX12_next_83 7 rfl ?_
          refine g_iload hC dX12_next_85 6 rfl ?_
          obtain ⟨q4, hq4, h⟩ := bd_of h hf
          refine g_cVI (As := [.int x6, .int x5]) hC hO (c_X12_behind _ hC.2.2.2.2.2.2.1 t ht1 ht2 x6 x5 q3.2 (nn_of hq4)) gc_X12_414 (xk_X12_behind _ (Nat.le_of_ble_eq_true rfl) (Nat.le_of_ble_eq_true rfl)) cr12 ht1 ht2 rfl (Nat.le_of_ble_eq_true rfl) dX12_next_87 hq4 ?_
          refine g_istore (lv' := [(8, .int q4.1), (7, .int q3.1), (0, .ref (E.2.2.1 t)), (1, .int x1), (2, .int x2), (3, .int x3), (4, .int x4), (5, .int x5), (6, .int x6)]) hC dX12_next_90 (by decide) rfl ?_
          refine g_iload hC dX12_next_92 1 rfl ?_
          refine g_iload hC dX12_next_94 0 rfl ?_
          refine g_icmp_le (tgt := 104) hC dX12_next_96 (by decide) h (fun c96 h => ?_) (fun c96 h => ?_)
          · refine g_iload hC dX12_next_104 0 rfl ?_
            exact g_sub [2, 3, 4, 5, 6, 7, 8] rfl (k_X12_next_106 hC hO hR hf t ht1 ht2 x1 x2 x3 x4 x5 x6 q4.1 r34 h34 (f_X12_next_47 t x1 x5 r34 n) ih q4.2 h)
          · refine g_iload hC dX12_next_99 1 rfl ?_
            refine g_goto (tgt := 106) hC dX12_next_101 (by decide) ?_
            exact g_sub [2, 3, 4, 5, 6, 7, 8] rfl (k_X12_next_106 hC hO hR hf t ht1 ht2 x1 x2 x3 x4 x5 x6 q3.1 r34 h34 (f_X12_next_47 t x1 x5 r34 n) ih q4.2 h)
set_option maxHeartbeats 4000000 in
set_option maxRecDepth 100000 in
theorem k_X12_next_34 {E : ET} {F : FT} {fo : Option (Int32 × HS)} (hC : Cx E F 10 cX12_next RX12 GT) (hO : Ro F rm_X12_next) (hR : RI E F .int fo) (hf : fo ≠ none) (t : Nat) (ht1 : kd t = 12) (ht2 : AL E t) (x1 : Int32) : ∀ (n : Nat) (x2 : Int32) (x3 : Int32) (x4 : Int32) (x5 : Int32) (σ : HS), f_X12_next_34 t x1 n x2 x3 x4 x5 σ = fo → G E F 34 [(0, .ref (E.2.2.1 t)), (1, .int x1), (2, .int x2), (3, .int x3), (4, .int x4), (5, .int x5)] [] σ := by
  intro n
  induction n with
  | zero =>
    intro x2 x3 x4 x5 σ h
    exact absurd (h.symm.trans rfl) hf
  | succ n ih =>
    intro x2 x3 x4 x5 σ h
    refine g_iload hC dX12_next_34 5 rfl ?_
    refine g_bipush (v := 8) hC dX12_next_36 (by decide) ?_
    refine g_icmp_ge (tgt := 136) hC dX12_next_38 (by decide) h (fun c38 h => ?_) (fun c38 h => ?_)
    · refine g_iload_n hC dX12_next_136 rfl 3 rfl ?_
      refine g_if_ge (tgt := 144) hC dX12_next_137 (by decide) h (fun c137 h => ?_) (fun c137 h => ?_)
      · refine g_iload_n hC dX12_next_144 rfl 1 rfl ?_
        refine g_if_ne (tgt := 152) hC dX12_next_145 (by decide) h (fun c145 h => ?_) (fun c145 h => ?_)
        · refine g_iload_n hC dX12_next_152 rfl 1 rfl ?_
          refine g_iconst (v := 1) hC dX12_next_153 (by decide) ?_
          refine g_icmp_ne (tgt := 162) hC dX12_next_154 (by decide) h (fun c154 h => ?_) (fun c154 h => ?_)
          · refine g_iload_n hC dX12_next_162 rfl 2 rfl ?_
            exact g_sub [] rfl (k_X12_next_163 hC hO hR hf x2 σ h)
          · refine g_iload hC dX12_next_157 4 rfl ?_
            refine g_goto (tgt := 163) hC dX12_next_159 (by decide) ?_
            exact g_sub [] rfl (k_X12_next_163 hC hO hR hf x4 σ h)
        · refine g_iload_n hC dX12_next_148 rfl 3 rfl ?_
          refine g_goto (tgt := 163) hC dX12_next_149 (by decide) ?_
          exact g_sub [] rfl (k_X12_next_163 hC hO hR hf x3 σ h)
      · refine g_iconst (v := (-1)) hC dX12_next_140 (by decide) ?_
        refine g_goto (tgt := 163) hC dX12_next_141 (by decide) ?_
        exact g_sub [] rfl (k_X12_next_163 hC hO hR hf (-1) σ h)
    · refine g_iload hC dX12_next_41 5 rfl ?_
      refine g_iconst (v := 1) hC dX12_next_43 (by decide) ?_
      refine g_iadd hC dX12_next_44 ?_
      refine g_istore (lv' := [(6, .int (x5 + 1)), (0, .ref (E.2.2.1 t)), (1, .int x1), (2, .int x2), (3, .int x3), (4, .int x4), (5, .int x5)]) hC dX12_next_45 (by decide) rfl ?_
      exact g_sub [1, 2, 3, 4, 5, 6, 0] rfl (k_X12_next_47 hC hO hR hf t ht1 ht2 x1 x5 (f_X12_next_34 t x1 n) ih FU x2 x3 x4 (x5 + 1) σ h)
set_option maxHeartbeats 4000000 in
set_option maxRecDepth 100000 in
theorem k_X12_next_0 {E : ET} {F : FT} {fo : Option (Int32 × HS)} (hC : Cx E F 10 cX12_next RX12 GT) (hO : Ro F rm_X12_next) (hR : RI E F .int fo) (hf : fo ≠ none) (t : Nat) (ht1 : kd t = 12) (ht2 : AL E t) (x1 : Int32) (σ : HS) (h : f_X12_next t x1 σ = fo) : G E F 0 [(0, .ref (E.2.2.1 t)), (1, .int x1)] [] σ := by
    refine g_aload_n hC dX12_next_0 rfl 0 rfl ?_
    refine g_iconst (v := 0) hC dX12_next_1 (by decide) ?_
    refine g_putI (k := 0) hC cr12 ui_12 tyX12_ok nmX12 ht1 ht2 (by decide) fl_X12_1 rfl rfl rfl rfl dX12_next_2 ?_
    refine g_iload_n hC dX12_next_5 rfl 1 rfl ?_
    refine g_iconst (v := 0) hC dX12_next_6 (by decide) ?_
    refine g_iconst (v := 2) hC dX12_next_7 (by decide) ?_
    obtain ⟨q1, hq1, h⟩ := bd_of h hf
    refine g_cSI (As := [.int x1, .int 0, .int 2]) hC hO (c_X12_within _ hC.2.2.2.2.2.2.1 x1 0 2 (sI σ t 0 0) (nn_of hq1)) gc_X12_213 (xk_X12_within _ (Nat.le_of_ble_eq_true rfl) (Nat.le_of_ble_eq_true rfl)) rfl (Nat.le_of_ble_eq_true rfl) dX12_next_8 hq1 ?_
    refine g_if_eq (tgt := 21) hC dX12_next_11 (by decide) h (fun c11 h => ?_) (fun c11 h => ?_)
    · exact g_sub [] rfl (k_X12_next_21 hC hO hR hf q1.2 h)
    · refine g_aload_n hC dX12_next_14 rfl 0 rfl ?_
      obtain ⟨q2, hq2, h⟩ := bd_of h hf
      refine g_cVI (As := []) hC hO (c_X12_findNow _ hC.2.2.2.2.2.2.1 t ht1 ht2 q1.2 (nn_of hq2)) gc_X12_361 (xk_X12_findNow _ (Nat.le_of_ble_eq_true rfl) (Nat.le_of_ble_eq_true rfl)) cr12 ht1 ht2 rfl (Nat.le_of_ble_eq_true rfl) dX12_next_15 hq2 ?_
      refine g_if_ne (tgt := 23) hC dX12_next_18 (by decide) h (fun c18 h => ?_) (fun c18 h => ?_)
      · refine g_bipush (v := 9) hC dX12_next_23 (by decide) ?_
        refine g_istore_n (lv' := [(2, .int 9), (0, .ref (E.2.2.1 t)), (1, .int x1)]) hC dX12_next_25 rfl (by decide) rfl ?_
        refine g_iconst (v := (-1)) hC dX12_next_26 (by decide) ?_
        refine g_istore_n (lv' := [(3, .int (-1)), (2, .int 9), (0, .ref (E.2.2.1 t)), (1, .int x1)]) hC dX12_next_27 rfl (by decide) rfl ?_
        refine g_iconst (v := (-1)) hC dX12_next_28 (by decide) ?_
        refine g_istore (lv' := [(4, .int (-1)), (3, .int (-1)), (2, .int 9), (0, .ref (E.2.2.1 t)), (1, .int x1)]) hC dX12_next_29 (by decide) rfl ?_
        refine g_iconst (v := 0) hC dX12_next_31 (by decide) ?_
        refine g_istore (lv' := [(5, .int 0), (4, .int (-1)), (3, .int (-1)), (2, .int 9), (0, .ref (E.2.2.1 t)), (1, .int x1)]) hC dX12_next_32 (by decide) rfl ?_
        exact g_sub [4, 5, 3, 2, 1, 0] rfl (k_X12_next_34 hC hO hR hf t ht1 ht2 x1 FU 9 (-1) (-1) 0 q2.2 h)
      · exact g_sub [] rfl (k_X12_next_21 hC hO hR hf q2.2 h)
theorem xk_X12_next (R : Room) (h1 : 9 + 1 ≤ R.frames) (h2 : 364 ≤ R.locals) : xw R yX12_next w_X12_next GT cX12_next 10 (some .int) rm_X12_next 1 := ⟨rfl, rfl, rfl, h1, h2, ⟨by decide, by decide⟩, by decide +kernel⟩
theorem c_X12_next (E : ET) (hE : EO E) (t : Nat) (ht1 : kd t = 12) (ht2 : AL E t) (x1 : Int32) (σ : HS) (hn : f_X12_next t x1 σ ≠ none) : CoI E yX12_next w_X12_next rm_X12_next [.ref (E.2.2.1 t), .int x1] σ (f_X12_next t x1 σ) := CoI.of (lv := [(0, .ref (E.2.2.1 t)), (1, .int x1)]) hE (plainFor_of_name (by decide)) rfl (Nat.le_of_ble_eq_true rfl) rfl (fun F hC hO hR => k_X12_next_0 hC hO hR hn t ht1 ht2 x1 σ rfl)
def rm_X12_fewFrom (i : Nat) : Room := { frames := 8 + i, cells := 0, slots := 0, locals := 285 + i * 40 }
theorem xk_X12_fewBehind (i : Nat) (R : Room) (h1 : (rm_X12_fewFrom i).frames + 1 ≤ R.frames) (h2 : 37 + (rm_X12_fewFrom i).locals ≤ R.locals) : xw R yX12_fewBehind w_X12_fewBehind GT cX12_fewBehind 6 (some .int) (rm_X12_fewFrom i) 4 := ⟨rfl, rfl, rfl, h1, h2, ⟨by decide, by decide⟩, by decide +kernel⟩
theorem xk_X12_fewFrom (i : Nat) (R : Room) (h1 : (rm_X12_fewFrom i).frames + 1 ≤ R.frames) (h2 : 40 + (rm_X12_fewFrom i).locals ≤ R.locals) : xw R yX12_fewFrom w_X12_fewFrom GT cX12_fewFrom 9 (some .int) (rm_X12_fewFrom i) 2 := ⟨rfl, rfl, rfl, h1, h2, ⟨by decide, by decide⟩, by decide +kernel⟩
theorem wc_X12_fewFrom : Cond.code yX12_fewFrom cX12_fewFrom 9 (some .int) ∈ GT := gtr_48 _ (List.mem_of_getElem? (i := 12) rfl)
theorem gc_X12_421 : GoodIn GT (wsV RX12 421 RX12 yX12_fewFrom w_X12_fewFrom) := gi_V (gtr_48 _ (List.mem_of_getElem? (i := 9) rfl)) (gtr_48 _ (List.mem_of_getElem? (i := 10) rfl)) (gtr_48 _ (List.mem_of_getElem? (i := 11) rfl)) (gtr_1 _ (List.mem_of_getElem? (i := 5) rfl)) wc_X12_fewFrom
set_option maxHeartbeats 4000000 in
set_option maxRecDepth 100000 in
theorem k_X12_fewBehind_39 {E : ET} {F : FT} {fo : Option (Int32 × HS)} {d : Nat} (hC : Cx E F 6 cX12_fewBehind RX12 GT) (hO : Ro F (rm_X12_fewFrom (2 * d + 1))) (hR : RI E F .int fo) (hf : fo ≠ none) (rc : Nat → Int32 → Int32 → HS → Option (Int32 × HS)) (hrc : ∀ (t : Nat) (_ : kd t = 12) (_ : AL E t) (x1 : Int32) (x2 : Int32) (σ : HS), rc t x1 x2 σ ≠ none → CoI E yX12_fewFrom w_X12_fewFrom (rm_X12_fewFrom (2 * d)) [.ref (E.2.2.1 t), .int x1, .int x2] σ (rc t x1 x2 σ)) (t : Nat) (ht1 : kd t = 12) (ht2 : AL E t) (x3 : Int32) (s0 : Int32) (σ : HS) (h : f_X12_fewBehind_39 rc t x3 s0 σ = fo) : G E F 39 [(0, .ref (E.2.2.1 t)), (3, .int x3)] [.int s0] σ := by
    refine g_istore (lv' := [(5, .int s0), (0, .ref (E.2.2.1 t)), (3, .int x3)]) hC dX12_fewBehind_39 (by decide) rfl ?_
    refine g_aload_n hC dX12_fewBehind_41 rfl 1 rfl ?_
    refine g_iload_n hC dX12_fewBehind_42 rfl 2 rfl ?_
    obtain ⟨q1, hq1, h⟩ := bd_of h hf
    refine g_cVV (As := [.int x3]) hC hO (c_X12_backTo _ hC.2.2.2.2.2.2.1 t ht1 ht2 x3 σ (nn_of hq1)) gc_X12_335 (xk_X12_backTo _ (by simp only [rm_X12_fewFrom]; omega) (by simp only [rm_X12_fewFrom]; omega)) cr12 ht1 ht2 rfl (Nat.le_of_ble_eq_true rfl) dX12_fewBehind_43 hq1 ?_
    refine g_iload hC dX12_fewBehind_46 0 rfl ?_
    exact g_iret hC hR dX12_fewBehind_48 rfl h
set_option maxHeartbeats 4000000 in
set_option maxRecDepth 100000 in
theorem k_X12_fewBehind_0 {E : ET} {F : FT} {fo : Option (Int32 × HS)} {d : Nat} (hC : Cx E F 6 cX12_fewBehind RX12 GT) (hO : Ro F (rm_X12_fewFrom (2 * d + 1))) (hR : RI E F .int fo) (hf : fo ≠ none) (rc : Nat → Int32 → Int32 → HS → Option (Int32 × HS)) (hrc : ∀ (t : Nat) (_ : kd t = 12) (_ : AL E t) (x1 : Int32) (x2 : Int32) (σ : HS), rc t x1 x2 σ ≠ none → CoI E yX12_fewFrom w_X12_fewFrom (rm_X12_fewFrom (2 * d)) [.ref (E.2.2.1 t), .int x1, .int x2] σ (rc t x1 x2 σ)) (t : Nat) (ht1 : kd t = 12) (ht2 : AL E t) (x1 : Int32) (x2 : Int32) (x3 : Int32) (x4 : Int32) (σ : HS) (h : f_X12_fewBehind rc t x1 x2 x3 x4 σ = fo) : G E F 0 [(0, .ref (E.2.2.1 t)), (1, .int x1), (2, .int x2), (3, .int x3), (4, .int x4)] [] σ := by
    refine g_aload_n hC dX12_fewBehind_0 rfl 0 rfl ?_
    refine g_iload_n hC dX12_fewBehind_1 rfl 1 rfl ?_
    refine g_iload_n hC dX12_fewBehind_2 rfl 2 rfl ?_
    obtain ⟨q1, hq1, h⟩ := bd_of h hf
    refine g_cVV (As := [.int x1, .int x2]) hC hO (c_X12_addsAbove _ hC.2.2.2.2.2.2.1 t ht1 ht2 x1 x2 σ (nn_of hq1)) gc_X12_329 (xk_X12_addsAbove _ (by simp only [rm_X12_fewFrom]; omega) (by simp only [rm_X12_fewFrom]; omega)) cr12 ht1 ht2 rfl (Nat.le_of_ble_eq_true rfl) dX12_fewBehind_3 hq1 ?_
    refine g_aload_n hC dX12_fewBehind_6 rfl 0 rfl ?_
    refine g_iload_n hC dX12_fewBehind_7 rfl 3 rfl ?_
    refine g_iconst (v := 1) hC dX12_fewBehind_8 (by decide) ?_
    refine g_iadd hC dX12_fewBehind_9 ?_
    obtain ⟨q2, hq2, h⟩ := bd_of h hf
    refine g_cVV (As := [.int (x3 + 1)]) hC hO (c_X12_findMore _ hC.2.2.2.2.2.2.1 t ht1 ht2 (x3 + 1) q1 (nn_of hq2)) gc_X12_332 (xk_X12_findMore _ (by simp only [rm_X12_fewFrom]; omega) (by simp only [rm_X12_fewFrom]; omega)) cr12 ht1 ht2 rfl (Nat.le_of_ble_eq_true rfl) dX12_fewBehind_10 hq2 ?_
    refine g_aload_n hC dX12_fewBehind_13 rfl 0 rfl ?_
    refine g_getR (cj := 14) (k := 28) hC cr12 ui_12 ht1 ht2 (by decide) fl_X12_112 rfl rfl dX12_fewBehind_14 h hf (fun a3 ea3 ka3 na3 h => ?_)
    refine g_iload_n hC dX12_fewBehind_17 rfl 3 rfl ?_
    refine g_iconst (v := 1) hC dX12_fewBehind_18 (by decide) ?_
    refine g_iadd hC dX12_fewBehind_19 ?_
    refine g_iald hC ka3 na3 dX12_fewBehind_20 h hf (fun h => ?_)
    refine g_if_ne (tgt := 28) hC dX12_fewBehind_21 (by decide) h (fun c21 h => ?_) (fun c21 h => ?_)
    · refine g_aload_n hC dX12_fewBehind_28 rfl 0 rfl ?_
      refine g_iload_n hC dX12_fewBehind_29 rfl 3 rfl ?_
      refine g_iconst (v := 1) hC dX12_fewBehind_30 (by decide) ?_
      refine g_iadd hC dX12_fewBehind_31 ?_
      refine g_iload hC dX12_fewBehind_32 4 rfl ?_
      refine g_iconst (v := 1) hC dX12_fewBehind_34 (by decide) ?_
      refine g_isub hC dX12_fewBehind_35 ?_
      obtain ⟨q4, hq4, h⟩ := bd_of h hf
      refine g_cVI (As := [.int (x3 + 1), .int (x4 - 1)]) hC hO (hrc t ht1 ht2 (x3 + 1) (x4 - 1) q2 (nn_of hq4)) gc_X12_421 (xk_X12_fewFrom (2 * d) _ (by simp only [rm_X12_fewFrom]; omega) (by simp only [rm_X12_fewFrom]; omega)) cr12 ht1 ht2 rfl (Nat.le_of_ble_eq_true rfl) dX12_fewBehind_36 hq4 ?_
      exact g_sub [0, 3] rfl (k_X12_fewBehind_39 hC hO hR hf rc hrc t ht1 ht2 x3 q4.1 q4.2 h)
    · refine g_iconst (v := 0) hC dX12_fewBehind_24 (by decide) ?_
      refine g_goto (tgt := 39) hC dX12_fewBehind_25 (by decide) ?_
      exact g_sub [0, 3] rfl (k_X12_fewBehind_39 hC hO hR hf rc hrc t ht1 ht2 x3 0 q2 h)
theorem c_X12_fewBehind (E : ET) (hE : EO E) (d : Nat) (rc : Nat → Int32 → Int32 → HS → Option (Int32 × HS)) (hrc : ∀ (t : Nat) (_ : kd t = 12) (_ : AL E t) (x1 : Int32) (x2 : Int32) (σ : HS), rc t x1 x2 σ ≠ none → CoI E yX12_fewFrom w_X12_fewFrom (rm_X12_fewFrom (2 * d)) [.ref (E.2.2.1 t), .int x1, .int x2] σ (rc t x1 x2 σ)) (t : Nat) (ht1 : kd t = 12) (ht2 : AL E t) (x1 : Int32) (x2 : Int32) (x3 : Int32) (x4 : Int32) (σ : HS) (hn : f_X12_fewBehind rc t x1 x2 x3 x4 σ ≠ none) : CoI E yX12_fewBehind w_X12_fewBehind (rm_X12_fewFrom (2 * d + 1)) [.ref (E.2.2.1 t), .int x1, .int x2, .int x3, .int x4] σ (f_X12_fewBehind rc t x1 x2 x3 x4 σ) := CoI.of (lv := [(0, .ref (E.2.2.1 t)), (1, .int x1), (2, .int x2), (3, .int x3), (4, .int x4)]) hE (plainFor_of_name (by decide)) rfl (Nat.le_of_ble_eq_true rfl) rfl (fun F hC hO hR => k_X12_fewBehind_0 hC hO hR hn rc hrc t ht1 ht2 x1 x2 x3 x4 σ rfl)
theorem wc_X12_fewBehind : Cond.code yX12_fewBehind cX12_fewBehind 6 (some .int) ∈ GT := gtr_48 _ (List.mem_of_getElem? (i := 16) rfl)
theorem gc_X12_417 : GoodIn GT (wsV RX12 417 RX12 yX12_fewBehind w_X12_fewBehind) := gi_V (gtr_48 _ (List.mem_of_getElem? (i := 13) rfl)) (gtr_48 _ (List.mem_of_getElem? (i := 14) rfl)) (gtr_48 _ (List.mem_of_getElem? (i := 15) rfl)) (gtr_1 _ (List.mem_of_getElem? (i := 5) rfl)) wc_X12_fewBehind
set_option maxHeartbeats 4000000 in
set_option maxRecDepth 100000 in
theorem k_X12_fewFrom_143 {E : ET} {F : FT} {fo : Option (Int32 × HS)} {d : Nat} (hC : Cx E F 9 cX12_fewFrom RX12 GT) (hO : Ro F (rm_X12_fewFrom (2 * d + 2))) (hR : RI E F .int fo) (hf : fo ≠ none) (rc : Nat → Int32 → Int32 → HS → Option (Int32 × HS)) (hrc : ∀ (t : Nat) (_ : kd t = 12) (_ : AL E t) (x1 : Int32) (x2 : Int32) (σ : HS), rc t x1 x2 σ ≠ none → CoI E yX12_fewFrom w_X12_fewFrom (rm_X12_fewFrom (2 * d)) [.ref (E.2.2.1 t), .int x1, .int x2] σ (rc t x1 x2 σ)) (x3 : Int32) (σ : HS) (h : f_X12_fewFrom_143 rc x3 σ = fo) : G E F 143 [(3, .int x3)] [] σ := by
    refine g_iload_n hC dX12_fewFrom_143 rfl 0 rfl ?_
    exact g_iret hC hR dX12_fewFrom_144 rfl h
set_option maxHeartbeats 4000000 in
set_option maxRecDepth 100000 in
theorem k_X12_fewFrom_131 {E : ET} {F : FT} {fo : Option (Int32 × HS)} {d : Nat} (hC : Cx E F 9 cX12_fewFrom RX12 GT) (hO : Ro F (rm_X12_fewFrom (2 * d + 2))) (hR : RI E F .int fo) (hf : fo ≠ none) (rc : Nat → Int32 → Int32 → HS → Option (Int32 × HS)) (hrc : ∀ (t : Nat) (_ : kd t = 12) (_ : AL E t) (x1 : Int32) (x2 : Int32) (σ : HS), rc t x1 x2 σ ≠ none → CoI E yX12_fewFrom w_X12_fewFrom (rm_X12_fewFrom (2 * d)) [.ref (E.2.2.1 t), .int x1, .int x2] σ (rc t x1 x2 σ)) (t : Nat) (ht1 : kd t = 12) (ht2 : AL E t) (x1 : Int32) (x2 : Int32) (x3 : Int32) (x4 : Int32) (x5 : Int32) (r16 : Int32 → Int32 → HS → Option (Int32 × HS)) (h16 : ∀ (x3 : Int32) (x4 : Int32) (σ : HS), r16 x3 x4 σ = fo → G E F 16 [(0, .ref (E.2.2.1 t)), (1, .int x1), (2, .int x2), (3, .int x3), (4, .int x4)] [] σ) (r33 : Int32 → Int32 → HS → Option (Int32 × HS)) (h33 : ∀ (x3 : Int32) (x5 : Int32) (σ : HS), r33 x3 x5 σ = fo → G E F 33 [(0, .ref (E.2.2.1 t)), (1, .int x1), (2, .int x2), (3, .int x3), (4, .int x4), (5, .int x5)] [] σ) (σ : HS) (h : f_X12_fewFrom_131 rc r16 r33 t x1 x2 x3 x4 x5 σ = fo) : G E F 131 [(0, .ref (E.2.2.1 t)), (1, .int x1), (2, .int x2), (3, .int x3), (4, .int x4), (5, .int x5)] [] σ := by
    refine g_iinc (v := x5 + 1) (lv' := [(5, .int (x5 + 1)), (0, .ref (E.2.2.1 t)), (1, .int x1), (2, .int x2), (3, .int x3), (4, .int x4)]) hC dX12_fewFrom_131 5 rfl rfl (by decide) rfl ?_
    refine g_goto (tgt := 33) hC dX12_fewFrom_134 (by decide) ?_
    exact g_sub [1, 2, 3, 4, 5, 0] rfl (h33 x3 (x5 + 1) σ h)
set_option maxHeartbeats 4000000 in
set_option maxRecDepth 100000 in
theorem k_X12_fewFrom_130 {E : ET} {F : FT} {fo : Option (Int32 × HS)} {d : Nat} (hC : Cx E F 9 cX12_fewFrom RX12 GT) (hO : Ro F (rm_X12_fewFrom (2 * d + 2))) (hR : RI E F .int fo) (hf : fo ≠ none) (rc : Nat → Int32 → Int32 → HS → Option (Int32 × HS)) (hrc : ∀ (t : Nat) (_ : kd t = 12) (_ : AL E t) (x1 : Int32) (x2 : Int32) (σ : HS), rc t x1 x2 σ ≠ none → CoI E yX12_fewFrom w_X12_fewFrom (rm_X12_fewFrom (2 * d)) [.ref (E.2.2.1 t), .int x1, .int x2] σ (rc t x1 x2 σ)) (t : Nat) (ht1 : kd t = 12) (ht2 : AL E t) (x1 : Int32) (x2 : Int32) (x4 : Int32) (x5 : Int32) (s0 : Int32) (r16 : Int32 → Int32 → HS → Option (Int32 × HS)) (h16 : ∀ (x3 : Int32) (x4 : Int32) (σ : HS), r16 x3 x4 σ = fo → G E F 16 [(0, .ref (E.2.2.1 t)), (1, .int x1), (2, .int x2), (3, .int x3), (4, .int x4)] [] σ) (r33 : Int32 → Int32 → HS → Option (Int32 × HS)) (h33 : ∀ (x3 : Int32) (x5 : Int32) (σ : HS), r33 x3 x5 σ = fo → G E F 33 [(0, .ref (E.2.2.1 t)), (1, .int x1), (2, .int x2), (3, .int x3), (4, .int x4), (5, .int x5)] [] σ) (σ : HS) (h : f_X12_fewFrom_130 rc r16 r33 t x1 x2 x4 x5 s0 σ = fo) : G E F 130 [(0, .ref (E.2.2.1 t)), (1, .int x1), (2, .int x2), (4, .int x4), (5, .int x5)] [.int s0] σ := by
    refine g_istore_n (lv' := [(3, .int s0), (0, .ref (E.2.2.1 t)), (1, .int x1), (2, .int x2), (4, .int x4), (5, .int x5)]) hC dX12_fewFrom_130 rfl (by decide) rfl ?_
    exact g_sub [1, 2, 3, 0, 4, 5] rfl (k_X12_fewFrom_131 hC hO hR hf rc hrc t ht1 ht2 x1 x2 s0 x4 x5 r16 h16 r33 h33 σ h)
set_option maxHeartbeats 4000000 in
set_option maxRecDepth 100000 in
theorem k_X12_fewFrom_115 {E : ET} {F : FT} {fo : Option (Int32 × HS)} {d : Nat} (hC : Cx E F 9 cX12_fewFrom RX12 GT) (hO : Ro F (rm_X12_fewFrom (2 * d + 2))) (hR : RI E F .int fo) (hf : fo ≠ none) (rc : Nat → Int32 → Int32 → HS → Option (Int32 × HS)) (hrc : ∀ (t : Nat) (_ : kd t = 12) (_ : AL E t) (x1 : Int32) (x2 : Int32) (σ : HS), rc t x1 x2 σ ≠ none → CoI E yX12_fewFrom w_X12_fewFrom (rm_X12_fewFrom (2 * d)) [.ref (E.2.2.1 t), .int x1, .int x2] σ (rc t x1 x2 σ)) (t : Nat) (ht1 : kd t = 12) (ht2 : AL E t) (x1 : Int32) (x2 : Int32) (x3 : Int32) (x4 : Int32) (x5 : Int32) (s0 : Int32) (s1 : Int32) (r16 : Int32 → Int32 → HS → Option (Int32 × HS)) (h16 : ∀ (x3 : Int32) (x4 : Int32) (σ : HS), r16 x3 x4 σ = fo → G E F 16 [(0, .ref (E.2.2.1 t)), (1, .int x1), (2, .int x2), (3, .int x3), (4, .int x4)] [] σ) (r33 : Int32 → Int32 → HS → Option (Int32 × HS)) (h33 : ∀ (x3 : Int32) (x5 : Int32) (σ : HS), r33 x3 x5 σ = fo → G E F 33 [(0, .ref (E.2.2.1 t)), (1, .int x1), (2, .int x2), (3, .int x3), (4, .int x4), (5, .int x5)] [] σ) (σ : HS) (h : f_X12_fewFrom_115 rc r16 r33 t x1 x2 x3 x4 x5 s0 s1 σ = fo) : G E F 115 [(0, .ref (E.2.2.1 t)), (1, .int x1), (2, .int x2), (3, .int x3), (4, .int x4), (5, .int x5)] [.int s0, .int s1] σ := by
    refine g_iadd hC dX12_fewFrom_115 ?_
    refine g_istore (lv' := [(8, .int (s1 + s0)), (0, .ref (E.2.2.1 t)), (1, .int x1), (2, .int x2), (3, .int x3), (4, .int x4), (5, .int x5)]) hC dX12_fewFrom_116 (by decide) rfl ?_
    refine g_iload hC dX12_fewFrom_118 0 rfl ?_
    refine g_iload_n hC dX12_fewFrom_120 rfl 4 rfl ?_
    refine g_icmp_ge (tgt := 129) hC dX12_fewFrom_121 (by decide) h (fun c121 h => ?_) (fun c121 h => ?_)
    · refine g_iload_n hC dX12_fewFrom_129 rfl 4 rfl ?_
      exact g_sub [1, 2, 3, 5, 6] rfl (k_X12_fewFrom_130 hC hO hR hf rc hrc t ht1 ht2 x1 x2 x4 x5 x3 r16 h16 r33 h33 σ h)
    · refine g_iload hC dX12_fewFrom_124 0 rfl ?_
      refine g_goto (tgt := 130) hC dX12_fewFrom_126 (by decide) ?_
      exact g_sub [1, 2, 3, 5, 6] rfl (k_X12_fewFrom_130 hC hO hR hf rc hrc t ht1 ht2 x1 x2 x4 x5 (s1 + s0) r16 h16 r33 h33 σ h)
set_option maxHeartbeats 4000000 in
set_option maxRecDepth 100000 in
theorem k_X12_fewFrom_98 {E : ET} {F : FT} {fo : Option (Int32 × HS)} {d : Nat} (hC : Cx E F 9 cX12_fewFrom RX12 GT) (hO : Ro F (rm_X12_fewFrom (2 * d + 2))) (hR : RI E F .int fo) (hf : fo ≠ none) (rc : Nat → Int32 → Int32 → HS → Option (Int32 × HS)) (hrc : ∀ (t : Nat) (_ : kd t = 12) (_ : AL E t) (x1 : Int32) (x2 : Int32) (σ : HS), rc t x1 x2 σ ≠ none → CoI E yX12_fewFrom w_X12_fewFrom (rm_X12_fewFrom (2 * d)) [.ref (E.2.2.1 t), .int x1, .int x2] σ (rc t x1 x2 σ)) (t : Nat) (ht1 : kd t = 12) (ht2 : AL E t) (x1 : Int32) (x2 : Int32) (x3 : Int32) (x4 : Int32) (x5 : Int32) (x6 : Int32) (s0 : Int32) (r16 : Int32 → Int32 → HS → Option (Int32 × HS)) (h16 : ∀ (x3 : Int32) (x4 : Int32) (σ : HS), r16 x3 x4 σ = fo → G E F 16 [(0, .ref (E.2.2.1 t)), (1, .int x1), (2, .int x2), (3, .int x3), (4, .int x4)] [] σ) (r33 : Int32 → Int32 → HS → Option (Int32 × HS)) (h33 : ∀ (x3 : Int32) (x5 : Int32) (σ : HS), r33 x3 x5 σ = fo → G E F 33 [(0, .ref (E.2.2.1 t)), (1, .int x1), (2, .int x2), (3, .int x3), (4, .int x4), (5, .int x5)] [] σ) (σ : HS) (h : f_X12_fewFrom_98 rc r16 r33 t x1 x2 x3 x4 x5 x6 s0 σ = fo) : G E F 98 [(0, .ref (E.2.2.1 t)), (1, .int x1), (2, .int x2), (3, .int x3), (4, .int x4), (5, .int x5), (6, .int x6)] [.int s0] σ := by
    refine g_istore (lv' := [(7, .int s0), (0, .ref (E.2.2.1 t)), (1, .int x1), (2, .int x2), (3, .int x3), (4, .int x4), (5, .int x5), (6, .int x6)]) hC dX12_fewFrom_98 (by decide) rfl ?_
    refine g_iconst (v := 1) hC dX12_fewFrom_100 (by decide) ?_
    refine g_iload hC dX12_fewFrom_101 7 rfl ?_
    refine g_iload hC dX12_fewFrom_103 0 rfl ?_
    refine g_icmp_le (tgt := 113) hC dX12_fewFrom_105 (by decide) h (fun c105 h => ?_) (fun c105 h => ?_)
    · refine g_iload hC dX12_fewFrom_113 0 rfl ?_
      exact g_sub [1, 2, 3, 4, 5, 6] rfl (k_X12_fewFrom_115 hC hO hR hf rc hrc t ht1 ht2 x1 x2 x3 x4 x5 s0 1 r16 h16 r33 h33 σ h)
    · refine g_iload hC dX12_fewFrom_108 7 rfl ?_
      refine g_goto (tgt := 115) hC dX12_fewFrom_110 (by decide) ?_
      exact g_sub [1, 2, 3, 4, 5, 6] rfl (k_X12_fewFrom_115 hC hO hR hf rc hrc t ht1 ht2 x1 x2 x3 x4 x5 x6 1 r16 h16 r33 h33 σ h)
set_option maxHeartbeats 4000000 in
set_option maxRecDepth 100000 in
theorem k_X12_fewFrom_33 {E : ET} {F : FT} {fo : Option (Int32 × HS)} {d : Nat} (hC : Cx E F 9 cX12_fewFrom RX12 GT) (hO : Ro F (rm_X12_fewFrom (2 * d + 2))) (hR : RI E F .int fo) (hf : fo ≠ none) (rc : Nat → Int32 → Int32 → HS → Option (Int32 × HS)) (hrc : ∀ (t : Nat) (_ : kd t = 12) (_ : AL E t) (x1 : Int32) (x2 : Int32) (σ : HS), rc t x1 x2 σ ≠ none → CoI E yX12_fewFrom w_X12_fewFrom (rm_X12_fewFrom (2 * d)) [.ref (E.2.2.1 t), .int x1, .int x2] σ (rc t x1 x2 σ)) (t : Nat) (ht1 : kd t = 12) (ht2 : AL E t) (x1 : Int32) (x2 : Int32) (x4 : Int32) (r16 : Int32 → Int32 → HS → Option (Int32 × HS)) (h16 : ∀ (x3 : Int32) (x4 : Int32) (σ : HS), r16 x3 x4 σ = fo → G E F 16 [(0, .ref (E.2.2.1 t)), (1, .int x1), (2, .int x2), (3, .int x3), (4, .int x4)] [] σ) : ∀ (n : Nat) (x3 : Int32) (x5 : Int32) (σ : HS), f_X12_fewFrom_33 rc t x1 x2 x4 r16 n x3 x5 σ = fo → G E F 33 [(0, .ref (E.2.2.1 t)), (1, .int x1), (2, .int x2), (3, .int x3), (4, .int x4), (5, .int x5)] [] σ := by
  intro n
  induction n with
  | zero =>
    intro x3 x5 σ h
    exact absurd (h.symm.trans rfl) hf
  | succ n ih =>
    intro x3 x5 σ h
    refine g_iload hC dX12_fewFrom_33 5 rfl ?_
    refine g_bipush (v := 8) hC dX12_fewFrom_35 (by decide) ?_
    refine g_icmp_ge (tgt := 137) hC dX12_fewFrom_37 (by decide) h (fun c37 h => ?_) (fun c37 h => ?_)
    · refine g_iinc (v := x4 + 1) (lv' := [(4, .int (x4 + 1)), (0, .ref (E.2.2.1 t)), (1, .int x1), (2, .int x2), (3, .int x3), (5, .int x5)]) hC dX12_fewFrom_137 4 rfl rfl (by decide) rfl ?_
      refine g_goto (tgt := 16) hC dX12_fewFrom_140 (by decide) ?_
      exact g_sub [1, 2, 3, 4, 0] rfl (h16 x3 (x4 + 1) σ h)
    · refine g_aload_n hC dX12_fewFrom_40 rfl 0 rfl ?_
      refine g_iload hC dX12_fewFrom_41 4 rfl ?_
      obtain ⟨q1, hq1, h⟩ := bd_of h hf
      refine g_cVI (As := [.int x4]) hC hO (c_X12_isIn _ hC.2.2.2.2.2.2.1 t ht1 ht2 x4 σ (nn_of hq1)) gc_X12_223 (xk_X12_isIn _ (by simp only [rm_X12_fewFrom]; omega) (by simp only [rm_X12_fewFrom]; omega)) cr12 ht1 ht2 rfl (Nat.le_of_ble_eq_true rfl) dX12_fewFrom_43 hq1 ?_
      refine g_if_eq (tgt := 131) hC dX12_fewFrom_46 (by decide) h (fun c46 h => ?_) (fun c46 h => ?_)
      · exact g_sub [0, 1, 2, 3, 4, 5] rfl (k_X12_fewFrom_131 hC hO hR hf rc hrc t ht1 ht2 x1 x2 x3 x4 x5 r16 h16 (f_X12_fewFrom_33 rc t x1 x2 x4 r16 n) ih q1.2 h)
      · refine g_aload_n hC dX12_fewFrom_49 rfl 0 rfl ?_
        refine g_iload hC dX12_fewFrom_50 5 rfl ?_
        obtain ⟨q2, hq2, h⟩ := bd_of h hf
        refine g_cVI (As := [.int x5]) hC hO (c_X12_isIn _ hC.2.2.2.2.2.2.1 t ht1 ht2 x5 q1.2 (nn_of hq2)) gc_X12_223 (xk_X12_isIn _ (by simp only [rm_X12_fewFrom]; omega) (by simp only [rm_X12_fewFrom]; omega)) cr12 ht1 ht2 rfl (Nat.le_of_ble_eq_true rfl) dX12_fewFrom_52 hq2 ?_
        refine g_if_eq (tgt := 131) hC dX12_fewFrom_55 (by decide) h (fun c55 h => ?_) (fun c55 h => ?_)
        · exact g_sub [0, 1, 2, 3, 4, 5] rfl (k_X12_fewFrom_131 hC hO hR hf rc hrc t ht1 ht2 x1 x2 x3 x4 x5 r16 h16 (f_X12_fewFrom_33 rc t x1 x2 x4 r16 n) ih q2.2 h)
        · refine g_iload_n hC dX12_fewFrom_58 rfl 3 rfl ?_
          refine g_iconst (v := 1) hC dX12_fewFrom_59 (by decide) ?_
          refine g_icmp_le (tgt := 131) hC dX12_fewFrom_60 (by decide) h (fun c60 h => ?_) (fun c60 h => ?_)
          · exact g_sub [0, 1, 2, 3, 4, 5] rfl (k_X12_fewFrom_131 hC hO hR hf rc hrc t ht1 ht2 x1 x2 x3 x4 x5 r16 h16 (f_X12_fewFrom_33 rc t x1 x2 x4 r16 n) ih q2.2 h)
          · refine g_aload_n hC dX12_fewFrom_63 rfl 0 rfl ?_
            refine g_iload hC dX12_fewFrom_64 4 rfl ?_
            refine g_iload hC dX12_fewFrom_66 5 rfl ?_
            refine g_iload_n hC dX12_fewFrom_68 rfl 1 rfl ?_
            refine g_iload_n hC dX12_fewFrom_69 rfl 2 rfl ?_
            obtain ⟨q3, hq3, h⟩ := bd_of h hf
            refine g_cVI (As := [.int x4, .int x5, .int x1, .int x2]) hC hO (c_X12_fewBehind _ hC.2.2.2.2.2.2.1 d rc hrc t ht1 ht2 x4 x5 x1 x2 q2.2 (nn_of hq3)) gc_X12_417 (xk_X12_fewBehind (2 * d + 1) _ (by simp only [rm_X12_fewFrom]; omega) (by simp only [rm_X12_fewFrom]; omega)) cr12 ht1 ht2 rfl (Nat.le_of_ble_eq_true rfl) dX12_fewFrom_70 hq3 ?_
            refine g_istore (lv' := [(6, .int q3.1), (0, .ref (E.2.2.1 t)), (1, .int x1), (2, .int x2), (3, .int x3), (4, .int x4), (5, .int x5)]) hC dX12_fewFrom_73 (by decide) rfl ?_
            refine g_iload hC dX12_fewFrom_75 0 rfl ?_
            refine g_iconst (v := 1) hC dX12_fewFrom_77 (by decide) ?_
            refine g_iadd hC dX12_fewFrom_78 ?_
            refine g_iload_n hC dX12_fewFrom_79 rfl 4 rfl ?_
            refine g_icmp_lt (tgt := 88) hC dX12_fewFrom_80 (by decide) h (fun c80 h => ?_) (fun c80 h => ?_)
            · refine g_aload_n hC dX12_fewFrom_88 rfl 1 rfl ?_
              refine g_iload hC dX12_fewFrom_89 6 rfl ?_
              refine g_iload hC dX12_fewFrom_91 5 rfl ?_
              refine g_iload_n hC dX12_fewFrom_93 rfl 2 rfl ?_
              refine g_iload_n hC dX12_fewFrom_94 rfl 3 rfl ?_
              obtain ⟨q4, hq4, h⟩ := bd_of h hf
              refine g_cVI (As := [.int x5, .int x4, .int x1, .int x2]) hC hO (c_X12_fewBehind _ hC.2.2.2.2.2.2.1 d rc hrc t ht1 ht2 x5 x4 x1 x2 q3.2 (nn_of hq4)) gc_X12_417 (xk_X12_fewBehind (2 * d + 1) _ (by simp only [rm_X12_fewFrom]; omega) (by simp only [rm_X12_fewFrom]; omega)) cr12 ht1 ht2 rfl (Nat.le_of_ble_eq_true rfl) dX12_fewFrom_95 hq4 ?_
              exact g_sub [1, 2, 3, 4, 5, 6, 0] rfl (k_X12_fewFrom_98 hC hO hR hf rc hrc t ht1 ht2 x1 x2 x3 x4 x5 q3.1 q4.1 r16 h16 (f_X12_fewFrom_33 rc t x1 x2 x4 r16 n) ih q4.2 h)
            · refine g_iload hC dX12_fewFrom_83 0 rfl ?_
              refine g_goto (tgt := 98) hC dX12_fewFrom_85 (by decide) ?_
              exact g_sub [1, 2, 3, 4, 5, 6, 0] rfl (k_X12_fewFrom_98 hC hO hR hf rc hrc t ht1 ht2 x1 x2 x3 x4 x5 q3.1 q3.1 r16 h16 (f_X12_fewFrom_33 rc t x1 x2 x4 r16 n) ih q3.2 h)
set_option maxHeartbeats 4000000 in
set_option maxRecDepth 100000 in
theorem k_X12_fewFrom_16 {E : ET} {F : FT} {fo : Option (Int32 × HS)} {d : Nat} (hC : Cx E F 9 cX12_fewFrom RX12 GT) (hO : Ro F (rm_X12_fewFrom (2 * d + 2))) (hR : RI E F .int fo) (hf : fo ≠ none) (rc : Nat → Int32 → Int32 → HS → Option (Int32 × HS)) (hrc : ∀ (t : Nat) (_ : kd t = 12) (_ : AL E t) (x1 : Int32) (x2 : Int32) (σ : HS), rc t x1 x2 σ ≠ none → CoI E yX12_fewFrom w_X12_fewFrom (rm_X12_fewFrom (2 * d)) [.ref (E.2.2.1 t), .int x1, .int x2] σ (rc t x1 x2 σ)) (t : Nat) (ht1 : kd t = 12) (ht2 : AL E t) (x1 : Int32) (x2 : Int32) : ∀ (n : Nat) (x3 : Int32) (x4 : Int32) (σ : HS), f_X12_fewFrom_16 rc t x1 x2 n x3 x4 σ = fo → G E F 16 [(0, .ref (E.2.2.1 t)), (1, .int x1), (2, .int x2), (3, .int x3), (4, .int x4)] [] σ := by
  intro n
  induction n with
  | zero =>
    intro x3 x4 σ h
    exact absurd (h.symm.trans rfl) hf
  | succ n ih =>
    intro x3 x4 σ h
    refine g_iload hC dX12_fewFrom_16 4 rfl ?_
    refine g_bipush (v := 8) hC dX12_fewFrom_18 (by decide) ?_
    refine g_icmp_ge (tgt := 143) hC dX12_fewFrom_20 (by decide) h (fun c20 h => ?_) (fun c20 h => ?_)
    · exact g_sub [3] rfl (k_X12_fewFrom_143 hC hO hR hf rc hrc x3 σ h)
    · refine g_iload_n hC dX12_fewFrom_23 rfl 2 rfl ?_
      refine g_if_le (tgt := 143) hC dX12_fewFrom_24 (by decide) h (fun c24 h => ?_) (fun c24 h => ?_)
      · exact g_sub [3] rfl (k_X12_fewFrom_143 hC hO hR hf rc hrc x3 σ h)
      · refine g_iload hC dX12_fewFrom_27 4 rfl ?_
        refine g_iconst (v := 1) hC dX12_fewFrom_29 (by decide) ?_
        refine g_iadd hC dX12_fewFrom_30 ?_
        refine g_istore (lv' := [(5, .int (x4 + 1)), (0, .ref (E.2.2.1 t)), (1, .int x1), (2, .int x2), (3, .int x3), (4, .int x4)]) hC dX12_fewFrom_31 (by decide) rfl ?_
        exact g_sub [1, 2, 3, 4, 5, 0] rfl (k_X12_fewFrom_33 hC hO hR hf rc hrc t ht1 ht2 x1 x2 x4 (f_X12_fewFrom_16 rc t x1 x2 n) ih FU x3 (x4 + 1) σ h)
set_option maxHeartbeats 4000000 in
set_option maxRecDepth 100000 in
theorem k_X12_fewFrom_0 {E : ET} {F : FT} {fo : Option (Int32 × HS)} {d : Nat} (hC : Cx E F 9 cX12_fewFrom RX12 GT) (hO : Ro F (rm_X12_fewFrom (2 * d + 2))) (hR : RI E F .int fo) (hf : fo ≠ none) (rc : Nat → Int32 → Int32 → HS → Option (Int32 × HS)) (hrc : ∀ (t : Nat) (_ : kd t = 12) (_ : AL E t) (x1 : Int32) (x2 : Int32) (σ : HS), rc t x1 x2 σ ≠ none → CoI E yX12_fewFrom w_X12_fewFrom (rm_X12_fewFrom (2 * d)) [.ref (E.2.2.1 t), .int x1, .int x2] σ (rc t x1 x2 σ)) (t : Nat) (ht1 : kd t = 12) (ht2 : AL E t) (x1 : Int32) (x2 : Int32) (σ : HS) (h : f_X12_fewFrom_0 rc t x1 x2 σ = fo) : G E F 0 [(0, .ref (E.2.2.1 t)), (1, .int x1), (2, .int x2)] [] σ := by
    refine g_aload_n hC dX12_fewFrom_0 rfl 0 rfl ?_
    refine g_iload_n hC dX12_fewFrom_1 rfl 1 rfl ?_
    obtain ⟨q1, hq1, h⟩ := bd_of h hf
    refine g_cVI (As := [.int x1]) hC hO (c_X12_sureBest _ hC.2.2.2.2.2.2.1 t ht1 ht2 x1 σ (nn_of hq1)) gc_X12_408 (xk_X12_sureBest _ (by simp only [rm_X12_fewFrom]; omega) (by simp only [rm_X12_fewFrom]; omega)) cr12 ht1 ht2 rfl (Nat.le_of_ble_eq_true rfl) dX12_fewFrom_2 hq1 ?_
    refine g_if_eq (tgt := 10) hC dX12_fewFrom_5 (by decide) h (fun c5 h => ?_) (fun c5 h => ?_)
    · refine g_bipush (v := 9) hC dX12_fewFrom_10 (by decide) ?_
      refine g_istore_n (lv' := [(3, .int 9), (0, .ref (E.2.2.1 t)), (1, .int x1), (2, .int x2)]) hC dX12_fewFrom_12 rfl (by decide) rfl ?_
      refine g_iconst (v := 0) hC dX12_fewFrom_13 (by decide) ?_
      refine g_istore (lv' := [(4, .int 0), (3, .int 9), (0, .ref (E.2.2.1 t)), (1, .int x1), (2, .int x2)]) hC dX12_fewFrom_14 (by decide) rfl ?_
      exact g_sub [2, 3, 4, 1, 0] rfl (k_X12_fewFrom_16 hC hO hR hf rc hrc t ht1 ht2 x1 x2 FU 9 0 q1.2 h)
    · refine g_iconst (v := 0) hC dX12_fewFrom_8 (by decide) ?_
      exact g_iret hC hR dX12_fewFrom_9 rfl h
theorem c_X12_fewFrom (E : ET) (hE : EO E) : ∀ (d : Nat) (t : Nat) (ht1 : kd t = 12) (ht2 : AL E t) (x1 : Int32) (x2 : Int32) (σ : HS), f_X12_fewFrom d t x1 x2 σ ≠ none → CoI E yX12_fewFrom w_X12_fewFrom (rm_X12_fewFrom (2 * d)) [.ref (E.2.2.1 t), .int x1, .int x2] σ (f_X12_fewFrom d t x1 x2 σ) := by
  intro d
  induction d with
  | zero => intro t ht1 ht2 x1 x2 σ hn; exact absurd rfl hn
  | succ d ih =>
    intro t ht1 ht2 x1 x2 σ hn
    exact CoI.of (lv := [(0, .ref (E.2.2.1 t)), (1, .int x1), (2, .int x2)]) hE (plainFor_of_name (by decide)) rfl (Nat.le_of_ble_eq_true rfl) rfl (fun F hC hO hR => k_X12_fewFrom_0 hC hO hR hn (f_X12_fewFrom d) ih t ht1 ht2 x1 x2 σ rfl)
def rm_X12_few : Room := { frames := 33, cells := 0, slots := 0, locals := 1285 }
theorem wc_X12_inMany : Cond.code yX12_inMany cX12_inMany 3 (some .int) ∈ GT := gtr_48 _ (List.mem_of_getElem? (i := 8) rfl)
theorem gc_X12_424 : GoodIn GT (wsV RX12 424 RX12 yX12_inMany w_X12_inMany) := gi_V (gtr_48 _ (List.mem_of_getElem? (i := 5) rfl)) (gtr_48 _ (List.mem_of_getElem? (i := 6) rfl)) (gtr_48 _ (List.mem_of_getElem? (i := 7) rfl)) (gtr_1 _ (List.mem_of_getElem? (i := 5) rfl)) wc_X12_inMany
set_option maxHeartbeats 4000000 in
set_option maxRecDepth 100000 in
theorem k_X12_few_19 {E : ET} {F : FT} {fo : Option (Int32 × HS)} (hC : Cx E F 2 cX12_few RX12 GT) (hO : Ro F rm_X12_few) (hR : RI E F .int fo) (hf : fo ≠ none) (σ : HS) (h : f_X12_few_19 σ = fo) : G E F 19 [] [] σ := by
    refine g_iconst (v := (-1)) hC dX12_few_19 (by decide) ?_
    exact g_iret hC hR dX12_few_20 rfl h
set_option maxHeartbeats 4000000 in
set_option maxRecDepth 100000 in
theorem k_X12_few_23 {E : ET} {F : FT} {fo : Option (Int32 × HS)} (hC : Cx E F 2 cX12_few RX12 GT) (hO : Ro F rm_X12_few) (hR : RI E F .int fo) (hf : fo ≠ none) (t : Nat) (ht1 : kd t = 12) (ht2 : AL E t) : ∀ (n : Nat) (x1 : Int32) (σ : HS), f_X12_few_23 t n x1 σ = fo → G E F 23 [(0, .ref (E.2.2.1 t)), (1, .int x1)] [] σ := by
  intro n
  induction n with
  | zero =>
    intro x1 σ h
    exact absurd (h.symm.trans rfl) hf
  | succ n ih =>
    intro x1 σ h
    refine g_iload_n hC dX12_few_23 rfl 1 rfl ?_
    refine g_iconst (v := 2) hC dX12_few_24 (by decide) ?_
    refine g_icmp_gt (tgt := 46) hC dX12_few_25 (by decide) h (fun c25 h => ?_) (fun c25 h => ?_)
    · refine g_iconst (v := (-1)) hC dX12_few_46 (by decide) ?_
      exact g_iret hC hR dX12_few_47 rfl h
    · refine g_aload_n hC dX12_few_28 rfl 0 rfl ?_
      refine g_iconst (v := 0) hC dX12_few_29 (by decide) ?_
      refine g_iload_n hC dX12_few_30 rfl 1 rfl ?_
      obtain ⟨q1, hq1, h⟩ := bd_of h hf
      refine g_cVI (As := [.int 0, .int x1]) hC hO (c_X12_fewFrom _ hC.2.2.2.2.2.2.1 DEP t ht1 ht2 0 x1 σ (nn_of hq1)) gc_X12_421 (xk_X12_fewFrom (2 * DEP) _ (Nat.le_of_ble_eq_true rfl) (Nat.le_of_ble_eq_true rfl)) cr12 ht1 ht2 rfl (Nat.le_of_ble_eq_true rfl) dX12_few_31 hq1 ?_
      refine g_iload_n hC dX12_few_34 rfl 1 rfl ?_
      refine g_icmp_gt (tgt := 40) hC dX12_few_35 (by decide) h (fun c35 h => ?_) (fun c35 h => ?_)
      · refine g_iinc (v := x1 + 1) (lv' := [(1, .int (x1 + 1)), (0, .ref (E.2.2.1 t))]) hC dX12_few_40 1 rfl rfl (by decide) rfl ?_
        refine g_goto (tgt := 23) hC dX12_few_43 (by decide) ?_
        exact g_sub [1, 0] rfl (ih (x1 + 1) q1.2 h)
      · refine g_iload_n hC dX12_few_38 rfl 1 rfl ?_
        exact g_iret hC hR dX12_few_39 rfl h
set_option maxHeartbeats 4000000 in
set_option maxRecDepth 100000 in
theorem k_X12_few_0 {E : ET} {F : FT} {fo : Option (Int32 × HS)} (hC : Cx E F 2 cX12_few RX12 GT) (hO : Ro F rm_X12_few) (hR : RI E F .int fo) (hf : fo ≠ none) (t : Nat) (ht1 : kd t = 12) (ht2 : AL E t) (σ : HS) (h : f_X12_few t σ = fo) : G E F 0 [(0, .ref (E.2.2.1 t))] [] σ := by
    refine g_aload_n hC dX12_few_0 rfl 0 rfl ?_
    refine g_iconst (v := 0) hC dX12_few_1 (by decide) ?_
    refine g_putI (k := 0) hC cr12 ui_12 tyX12_ok nmX12 ht1 ht2 (by decide) fl_X12_1 rfl rfl rfl rfl dX12_few_2 ?_
    refine g_aload_n hC dX12_few_5 rfl 0 rfl ?_
    obtain ⟨q1, hq1, h⟩ := bd_of h hf
    refine g_cVI (As := []) hC hO (c_X12_inMany _ hC.2.2.2.2.2.2.1 t ht1 ht2 (sI σ t 0 0) (nn_of hq1)) gc_X12_424 (xk_X12_inMany _ (Nat.le_of_ble_eq_true rfl) (Nat.le_of_ble_eq_true rfl)) cr12 ht1 ht2 rfl (Nat.le_of_ble_eq_true rfl) dX12_few_6 hq1 ?_
    refine g_if_eq (tgt := 19) hC dX12_few_9 (by decide) h (fun c9 h => ?_) (fun c9 h => ?_)
    · exact g_sub [] rfl (k_X12_few_19 hC hO hR hf q1.2 h)
    · refine g_aload_n hC dX12_few_12 rfl 0 rfl ?_
      obtain ⟨q2, hq2, h⟩ := bd_of h hf
      refine g_cVI (As := []) hC hO (c_X12_findNow _ hC.2.2.2.2.2.2.1 t ht1 ht2 q1.2 (nn_of hq2)) gc_X12_361 (xk_X12_findNow _ (Nat.le_of_ble_eq_true rfl) (Nat.le_of_ble_eq_true rfl)) cr12 ht1 ht2 rfl (Nat.le_of_ble_eq_true rfl) dX12_few_13 hq2 ?_
      refine g_if_ne (tgt := 21) hC dX12_few_16 (by decide) h (fun c16 h => ?_) (fun c16 h => ?_)
      · refine g_iconst (v := 0) hC dX12_few_21 (by decide) ?_
        refine g_istore_n (lv' := [(1, .int 0), (0, .ref (E.2.2.1 t))]) hC dX12_few_22 rfl (by decide) rfl ?_
        exact g_sub [1, 0] rfl (k_X12_few_23 hC hO hR hf t ht1 ht2 FU 0 q2.2 h)
      · exact g_sub [] rfl (k_X12_few_19 hC hO hR hf q2.2 h)
theorem xk_X12_few (R : Room) (h1 : 33 + 1 ≤ R.frames) (h2 : 1318 ≤ R.locals) : xw R yX12_few w_X12_few GT cX12_few 2 (some .int) rm_X12_few 0 := ⟨rfl, rfl, rfl, h1, h2, ⟨by decide, by decide⟩, by decide +kernel⟩
theorem c_X12_few (E : ET) (hE : EO E) (t : Nat) (ht1 : kd t = 12) (ht2 : AL E t) (σ : HS) (hn : f_X12_few t σ ≠ none) : CoI E yX12_few w_X12_few rm_X12_few [.ref (E.2.2.1 t)] σ (f_X12_few t σ) := CoI.of (lv := [(0, .ref (E.2.2.1 t))]) hE (plainFor_of_name (by decide)) rfl (Nat.le_of_ble_eq_true rfl) rfl (fun F hC hO hR => k_X12_few_0 hC hO hR hn t ht1 ht2 σ rfl)
def rm_X12_doesWith : Room := { frames := 7, cells := 0, slots := 0, locals := 253 }
set_option maxHeartbeats 4000000 in
set_option maxRecDepth 100000 in
theorem k_X12_doesWith_35 {E : ET} {F : FT} {fo : Option (Int32 × HS)} (hC : Cx E F 6 cX12_doesWith RX12 GT) (hO : Ro F rm_X12_doesWith) (hR : RI E F .boolean fo) (hf : fo ≠ none) (t : Nat) (ht1 : kd t = 12) (ht2 : AL E t) (s0 : Int32) (σ : HS) (h : f_X12_doesWith_35 t s0 σ = fo) : G E F 35 [(0, .ref (E.2.2.1 t))] [.int s0] σ := by
    refine g_istore (lv' := [(5, .int s0), (0, .ref (E.2.2.1 t))]) hC dX12_doesWith_35 (by decide) rfl ?_
    refine g_aload_n hC dX12_doesWith_37 rfl 1 rfl ?_
    refine g_iconst (v := (-1)) hC dX12_doesWith_38 (by decide) ?_
    refine g_putI (k := 32) hC cr12 ui_12 tyX12_ok nmX12 ht1 ht2 (by decide) fl_X12_124 rfl rfl rfl rfl dX12_doesWith_39 ?_
    refine g_iload hC dX12_doesWith_42 0 rfl ?_
    obtain ⟨hz, h⟩ := zr_of h hf
    exact g_iret hC hR dX12_doesWith_44 hz h
set_option maxHeartbeats 4000000 in
set_option maxRecDepth 100000 in
theorem k_X12_doesWith_0 {E : ET} {F : FT} {fo : Option (Int32 × HS)} (hC : Cx E F 6 cX12_doesWith RX12 GT) (hO : Ro F rm_X12_doesWith) (hR : RI E F .boolean fo) (hf : fo ≠ none) (t : Nat) (ht1 : kd t = 12) (ht2 : AL E t) (x1 : Int32) (x2 : Int32) (x3 : Int32) (x4 : Int32) (σ : HS) (h : f_X12_doesWith t x1 x2 x3 x4 σ = fo) : G E F 0 [(0, .ref (E.2.2.1 t)), (1, .int x1), (2, .int x2), (3, .int x3), (4, .int x4)] [] σ := by
    refine g_aload_n hC dX12_doesWith_0 rfl 0 rfl ?_
    refine g_iload_n hC dX12_doesWith_1 rfl 1 rfl ?_
    refine g_putI (k := 32) hC cr12 ui_12 tyX12_ok nmX12 ht1 ht2 (by decide) fl_X12_124 rfl rfl rfl rfl dX12_doesWith_2 ?_
    refine g_aload_n hC dX12_doesWith_5 rfl 0 rfl ?_
    refine g_iload_n hC dX12_doesWith_6 rfl 2 rfl ?_
    refine g_putI (k := 33) hC cr12 ui_12 tyX12_ok nmX12 ht1 ht2 (by decide) fl_X12_304 rfl rfl rfl rfl dX12_doesWith_7 ?_
    refine g_aload_n hC dX12_doesWith_10 rfl 0 rfl ?_
    refine g_iload_n hC dX12_doesWith_11 rfl 3 rfl ?_
    refine g_putI (k := 34) hC cr12 ui_12 tyX12_ok nmX12 ht1 ht2 (by decide) fl_X12_307 rfl rfl rfl rfl dX12_doesWith_12 ?_
    refine g_iload hC dX12_doesWith_15 4 rfl ?_
    refine g_if_eq (tgt := 29) hC dX12_doesWith_17 (by decide) h (fun c17 h => ?_) (fun c17 h => ?_)
    · refine g_aload_n hC dX12_doesWith_29 rfl 0 rfl ?_
      refine g_iload_n hC dX12_doesWith_30 rfl 1 rfl ?_
      refine g_iconst (v := 0) hC dX12_doesWith_31 (by decide) ?_
      obtain ⟨q1, hq1, h⟩ := bd_of h hf
      refine g_cVI (As := [.int x1, .int 0]) hC hO (c_X12_mayBe _ hC.2.2.2.2.2.2.1 t ht1 ht2 x1 0 (sI (sI (sI σ t 32 x1) t 33 x2) t 34 x3) (nn_of hq1)) gc_X12_338 (xk_X12_mayBe _ (Nat.le_of_ble_eq_true rfl) (Nat.le_of_ble_eq_true rfl)) cr12 ht1 ht2 rfl (Nat.le_of_ble_eq_true rfl) dX12_doesWith_32 hq1 ?_
      exact g_sub [0] rfl (k_X12_doesWith_35 hC hO hR hf t ht1 ht2 q1.1 q1.2 h)
    · refine g_aload_n hC dX12_doesWith_20 rfl 0 rfl ?_
      refine g_iload_n hC dX12_doesWith_21 rfl 1 rfl ?_
      refine g_iconst (v := 0) hC dX12_doesWith_22 (by decide) ?_
      obtain ⟨q2, hq2, h⟩ := bd_of h hf
      refine g_cVI (As := [.int x1, .int 0]) hC hO (c_X12_isSure _ hC.2.2.2.2.2.2.1 t ht1 ht2 x1 0 (sI (sI (sI σ t 32 x1) t 33 x2) t 34 x3) (nn_of hq2)) gc_X12_342 (xk_X12_isSure _ (Nat.le_of_ble_eq_true rfl) (Nat.le_of_ble_eq_true rfl)) cr12 ht1 ht2 rfl (Nat.le_of_ble_eq_true rfl) dX12_doesWith_23 hq2 ?_
      refine g_goto (tgt := 35) hC dX12_doesWith_26 (by decide) ?_
      exact g_sub [0] rfl (k_X12_doesWith_35 hC hO hR hf t ht1 ht2 q2.1 q2.2 h)
theorem xk_X12_doesWith (R : Room) (h1 : 7 + 1 ≤ R.frames) (h2 : 290 ≤ R.locals) : xw R yX12_doesWith w_X12_doesWith GT cX12_doesWith 6 (some .boolean) rm_X12_doesWith 4 := ⟨rfl, rfl, rfl, h1, h2, ⟨by decide, by decide⟩, by decide +kernel⟩
theorem c_X12_doesWith (E : ET) (hE : EO E) (t : Nat) (ht1 : kd t = 12) (ht2 : AL E t) (x1 : Int32) (x2 : Int32) (x3 : Int32) (x4 : Int32) (σ : HS) (hn : f_X12_doesWith t x1 x2 x3 x4 σ ≠ none) : CoI E yX12_doesWith w_X12_doesWith rm_X12_doesWith [.ref (E.2.2.1 t), .int x1, .int x2, .int x3, .int x4] σ (f_X12_doesWith t x1 x2 x3 x4 σ) := CoI.of (lv := [(0, .ref (E.2.2.1 t)), (1, .int x1), (2, .int x2), (3, .int x3), (4, .int x4)]) hE (plainFor_of_name (by decide)) rfl (Nat.le_of_ble_eq_true rfl) rfl (fun F hC hO hR => k_X12_doesWith_0 hC hO hR hn t ht1 ht2 x1 x2 x3 x4 σ rfl)
def rm_X12_need : Room := { frames := 8, cells := 0, slots := 0, locals := 290 }
theorem wc_X12_doesWith : Cond.code yX12_doesWith cX12_doesWith 6 (some .boolean) ∈ GT := gtr_49 _ (List.mem_of_getElem? (i := 20) rfl)
theorem gc_X12_427 : GoodIn GT (wsV RX12 427 RX12 yX12_doesWith w_X12_doesWith) := gi_V (gtr_49 _ (List.mem_of_getElem? (i := 17) rfl)) (gtr_49 _ (List.mem_of_getElem? (i := 18) rfl)) (gtr_49 _ (List.mem_of_getElem? (i := 19) rfl)) (gtr_1 _ (List.mem_of_getElem? (i := 5) rfl)) wc_X12_doesWith
set_option maxHeartbeats 4000000 in
set_option maxRecDepth 100000 in
theorem k_X12_need_34 {E : ET} {F : FT} {fo : Option (Int32 × HS)} (hC : Cx E F 8 cX12_need RX12 GT) (hO : Ro F rm_X12_need) (hR : RI E F .int fo) (hf : fo ≠ none) (σ : HS) (h : f_X12_need_34 σ = fo) : G E F 34 [] [] σ := by
    refine g_iconst (v := (-1)) hC dX12_need_34 (by decide) ?_
    exact g_iret hC hR dX12_need_35 rfl h
set_option maxHeartbeats 4000000 in
set_option maxRecDepth 100000 in
theorem k_X12_need_109 {E : ET} {F : FT} {fo : Option (Int32 × HS)} (hC : Cx E F 8 cX12_need RX12 GT) (hO : Ro F rm_X12_need) (hR : RI E F .int fo) (hf : fo ≠ none) (t : Nat) (ht1 : kd t = 12) (ht2 : AL E t) (x1 : Int32) (x2 : Int32) (x3 : Int32) (x4 : Int32) (x5 : Int32) (x6 : Int32) (r68 : Int32 → Int32 → HS → Option (Int32 × HS)) (h68 : ∀ (x5 : Int32) (x6 : Int32) (σ : HS), r68 x5 x6 σ = fo → G E F 68 [(0, .ref (E.2.2.1 t)), (1, .int x1), (2, .int x2), (3, .int x3), (4, .int x4), (5, .int x5), (6, .int x6)] [] σ) (σ : HS) (h : f_X12_need_109 r68 t x1 x2 x3 x4 x5 x6 σ = fo) : G E F 109 [(0, .ref (E.2.2.1 t)), (1, .int x1), (2, .int x2), (3, .int x3), (4, .int x4), (5, .int x5), (6, .int x6)] [] σ := by
    refine g_goto (tgt := 68) hC dX12_need_109 (by decide) ?_
    exact g_sub [0, 1, 2, 3, 4, 5, 6] rfl (h68 x5 x6 σ h)
set_option maxHeartbeats 4000000 in
set_option maxRecDepth 100000 in
theorem k_X12_need_68 {E : ET} {F : FT} {fo : Option (Int32 × HS)} (hC : Cx E F 8 cX12_need RX12 GT) (hO : Ro F rm_X12_need) (hR : RI E F .int fo) (hf : fo ≠ none) (t : Nat) (ht1 : kd t = 12) (ht2 : AL E t) (x1 : Int32) (x2 : Int32) (x3 : Int32) (x4 : Int32) : ∀ (n : Nat) (x5 : Int32) (x6 : Int32) (σ : HS), f_X12_need_68 t x1 x2 x3 x4 n x5 x6 σ = fo → G E F 68 [(0, .ref (E.2.2.1 t)), (1, .int x1), (2, .int x2), (3, .int x3), (4, .int x4), (5, .int x5), (6, .int x6)] [] σ := by
  intro n
  induction n with
  | zero =>
    intro x5 x6 σ h
    exact absurd (h.symm.trans rfl) hf
  | succ n ih =>
    intro x5 x6 σ h
    refine g_iload hC dX12_need_68 6 rfl ?_
    refine g_iload hC dX12_need_70 5 rfl ?_
    refine g_isub hC dX12_need_72 ?_
    refine g_iconst (v := 1) hC dX12_need_73 (by decide) ?_
    refine g_icmp_le (tgt := 112) hC dX12_need_74 (by decide) h (fun c74 h => ?_) (fun c74 h => ?_)
    · refine g_iload hC dX12_need_112 6 rfl ?_
      refine g_iload hC dX12_need_114 4 rfl ?_
      refine g_isub hC dX12_need_116 ?_
      exact g_iret hC hR dX12_need_117 rfl h
    · refine g_iload hC dX12_need_77 5 rfl ?_
      refine g_iload hC dX12_need_79 6 rfl ?_
      refine g_iadd hC dX12_need_81 ?_
      refine g_iconst (v := 2) hC dX12_need_82 (by decide) ?_
      refine g_idiv hC dX12_need_83 (by decide) ?_
      refine g_istore (lv' := [(7, .int ((x5 + x6) / 2)), (0, .ref (E.2.2.1 t)), (1, .int x1), (2, .int x2), (3, .int x3), (4, .int x4), (5, .int x5), (6, .int x6)]) hC dX12_need_84 (by decide) rfl ?_
      refine g_aload_n hC dX12_need_86 rfl 1 rfl ?_
      refine g_iload_n hC dX12_need_87 rfl 2 rfl ?_
      refine g_iload_n hC dX12_need_88 rfl 3 rfl ?_
      refine g_iload hC dX12_need_89 0 rfl ?_
      refine g_iload_n hC dX12_need_91 rfl 4 rfl ?_
      obtain ⟨q1, hq1, h⟩ := bd_of h hf
      refine g_cVI (As := [.int x1, .int x2, .int ((x5 + x6) / 2), .int x3]) hC hO (c_X12_doesWith _ hC.2.2.2.2.2.2.1 t ht1 ht2 x1 x2 ((x5 + x6) / 2) x3 σ (nn_of hq1)) gc_X12_427 (xk_X12_doesWith _ (Nat.le_of_ble_eq_true rfl) (Nat.le_of_ble_eq_true rfl)) cr12 ht1 ht2 rfl (Nat.le_of_ble_eq_true rfl) dX12_need_92 hq1 ?_
      refine g_if_eq (tgt := 105) hC dX12_need_95 (by decide) h (fun c95 h => ?_) (fun c95 h => ?_)
      · refine g_iload hC dX12_need_105 0 rfl ?_
        refine g_istore (lv' := [(5, .int ((x5 + x6) / 2)), (7, .int ((x5 + x6) / 2)), (0, .ref (E.2.2.1 t)), (1, .int x1), (2, .int x2), (3, .int x3), (4, .int x4), (6, .int x6)]) hC dX12_need_107 (by decide) rfl ?_
        exact g_sub [2, 3, 4, 5, 6, 0, 7] rfl (k_X12_need_109 hC hO hR hf t ht1 ht2 x1 x2 x3 x4 ((x5 + x6) / 2) x6 (f_X12_need_68 t x1 x2 x3 x4 n) ih q1.2 h)
      · refine g_iload hC dX12_need_98 0 rfl ?_
        refine g_istore (lv' := [(6, .int ((x5 + x6) / 2)), (7, .int ((x5 + x6) / 2)), (0, .ref (E.2.2.1 t)), (1, .int x1), (2, .int x2), (3, .int x3), (4, .int x4), (5, .int x5)]) hC dX12_need_100 (by decide) rfl ?_
        refine g_goto (tgt := 109) hC dX12_need_102 (by decide) ?_
        exact g_sub [2, 3, 4, 5, 6, 7, 0] rfl (k_X12_need_109 hC hO hR hf t ht1 ht2 x1 x2 x3 x4 x5 ((x5 + x6) / 2) (f_X12_need_68 t x1 x2 x3 x4 n) ih q1.2 h)
set_option maxHeartbeats 4000000 in
set_option maxRecDepth 100000 in
theorem k_X12_need_0 {E : ET} {F : FT} {fo : Option (Int32 × HS)} (hC : Cx E F 8 cX12_need RX12 GT) (hO : Ro F rm_X12_need) (hR : RI E F .int fo) (hf : fo ≠ none) (t : Nat) (ht1 : kd t = 12) (ht2 : AL E t) (x1 : Int32) (x2 : Int32) (x3 : Int32) (σ : HS) (h : f_X12_need t x1 x2 x3 σ = fo) : G E F 0 [(0, .ref (E.2.2.1 t)), (1, .int x1), (2, .int x2), (3, .int x3)] [] σ := by
    refine g_aload_n hC dX12_need_0 rfl 0 rfl ?_
    refine g_iconst (v := 0) hC dX12_need_1 (by decide) ?_
    refine g_putI (k := 0) hC cr12 ui_12 tyX12_ok nmX12 ht1 ht2 (by decide) fl_X12_1 rfl rfl rfl rfl dX12_need_2 ?_
    refine g_aload_n hC dX12_need_5 rfl 0 rfl ?_
    refine g_iload_n hC dX12_need_6 rfl 1 rfl ?_
    obtain ⟨q1, hq1, h⟩ := bd_of h hf
    refine g_cVI (As := [.int x1]) hC hO (c_X12_isThingIn _ hC.2.2.2.2.2.2.1 t ht1 ht2 x1 (sI σ t 0 0) (nn_of hq1)) gc_X12_383 (xk_X12_isThingIn _ (Nat.le_of_ble_eq_true rfl) (Nat.le_of_ble_eq_true rfl)) cr12 ht1 ht2 rfl (Nat.le_of_ble_eq_true rfl) dX12_need_7 hq1 ?_
    refine g_if_eq (tgt := 34) hC dX12_need_10 (by decide) h (fun c10 h => ?_) (fun c10 h => ?_)
    · exact g_sub [] rfl (k_X12_need_34 hC hO hR hf q1.2 h)
    · refine g_iload_n hC dX12_need_13 rfl 2 rfl ?_
      refine g_iconst (v := 0) hC dX12_need_14 (by decide) ?_
      refine g_aload_n hC dX12_need_15 rfl 0 rfl ?_
      refine g_getI (k := 20) hC cr12 ui_12 ht1 ht2 (by decide) fl_X12_193 rfl rfl dX12_need_16 ?_
      refine g_iconst (v := 1) hC dX12_need_19 (by decide) ?_
      refine g_isub hC dX12_need_20 ?_
      obtain ⟨q2, hq2, h⟩ := bd_of h hf
      refine g_cSI (As := [.int x2, .int 0, .int ((q1.2.1 t 20) - 1)]) hC hO (c_X12_within _ hC.2.2.2.2.2.2.1 x2 0 ((q1.2.1 t 20) - 1) q1.2 (nn_of hq2)) gc_X12_213 (xk_X12_within _ (Nat.le_of_ble_eq_true rfl) (Nat.le_of_ble_eq_true rfl)) rfl (Nat.le_of_ble_eq_true rfl) dX12_need_21 hq2 ?_
      refine g_if_eq (tgt := 34) hC dX12_need_24 (by decide) h (fun c24 h => ?_) (fun c24 h => ?_)
      · exact g_sub [] rfl (k_X12_need_34 hC hO hR hf q2.2 h)
      · refine g_aload_n hC dX12_need_27 rfl 0 rfl ?_
        obtain ⟨q3, hq3, h⟩ := bd_of h hf
        refine g_cVI (As := []) hC hO (c_X12_findNow _ hC.2.2.2.2.2.2.1 t ht1 ht2 q2.2 (nn_of hq3)) gc_X12_361 (xk_X12_findNow _ (Nat.le_of_ble_eq_true rfl) (Nat.le_of_ble_eq_true rfl)) cr12 ht1 ht2 rfl (Nat.le_of_ble_eq_true rfl) dX12_need_28 hq3 ?_
        refine g_if_ne (tgt := 36) hC dX12_need_31 (by decide) h (fun c31 h => ?_) (fun c31 h => ?_)
        · refine g_aload_n hC dX12_need_36 rfl 0 rfl ?_
          refine g_iload_n hC dX12_need_37 rfl 1 rfl ?_
          refine g_iload_n hC dX12_need_38 rfl 2 rfl ?_
          obtain ⟨q4, hq4, h⟩ := bd_of h hf
          refine g_cVI (As := [.int x1, .int x2]) hC hO (c_X12_valueOf _ hC.2.2.2.2.2.2.1 t ht1 ht2 x1 x2 q3.2 (nn_of hq4)) gc_X12_226 (xk_X12_valueOf _ (Nat.le_of_ble_eq_true rfl) (Nat.le_of_ble_eq_true rfl)) cr12 ht1 ht2 rfl (Nat.le_of_ble_eq_true rfl) dX12_need_39 hq4 ?_
          refine g_istore (lv' := [(4, .int q4.1), (0, .ref (E.2.2.1 t)), (1, .int x1), (2, .int x2), (3, .int x3)]) hC dX12_need_42 (by decide) rfl ?_
          refine g_aload_n hC dX12_need_44 rfl 1 rfl ?_
          refine g_iload_n hC dX12_need_45 rfl 2 rfl ?_
          refine g_iload_n hC dX12_need_46 rfl 3 rfl ?_
          refine g_bipush (v := 100) hC dX12_need_47 (by decide) ?_
          refine g_iload_n hC dX12_need_49 rfl 4 rfl ?_
          obtain ⟨q5, hq5, h⟩ := bd_of h hf
          refine g_cVI (As := [.int x1, .int x2, .int 100, .int x3]) hC hO (c_X12_doesWith _ hC.2.2.2.2.2.2.1 t ht1 ht2 x1 x2 100 x3 q4.2 (nn_of hq5)) gc_X12_427 (xk_X12_doesWith _ (Nat.le_of_ble_eq_true rfl) (Nat.le_of_ble_eq_true rfl)) cr12 ht1 ht2 rfl (Nat.le_of_ble_eq_true rfl) dX12_need_50 hq5 ?_
          refine g_if_ne (tgt := 58) hC dX12_need_53 (by decide) h (fun c53 h => ?_) (fun c53 h => ?_)
          · refine g_iload hC dX12_need_58 0 rfl ?_
            refine g_iconst (v := 1) hC dX12_need_60 (by decide) ?_
            refine g_isub hC dX12_need_61 ?_
            refine g_istore (lv' := [(5, .int (q4.1 - 1)), (4, .int q4.1), (0, .ref (E.2.2.1 t)), (1, .int x1), (2, .int x2), (3, .int x3)]) hC dX12_need_62 (by decide) rfl ?_
            refine g_bipush (v := 100) hC dX12_need_64 (by decide) ?_
            refine g_istore (lv' := [(6, .int 100), (5, .int (q4.1 - 1)), (4, .int q4.1), (0, .ref (E.2.2.1 t)), (1, .int x1), (2, .int x2), (3, .int x3)]) hC dX12_need_66 (by decide) rfl ?_
            exact g_sub [3, 4, 5, 6, 2, 1, 0] rfl (k_X12_need_68 hC hO hR hf t ht1 ht2 x1 x2 x3 q4.1 FU (q4.1 - 1) 100 q5.2 h)
          · refine g_iconst (v := (-1)) hC dX12_need_56 (by decide) ?_
            exact g_iret hC hR dX12_need_57 rfl h
        · exact g_sub [] rfl (k_X12_need_34 hC hO hR hf q3.2 h)
theorem xk_X12_need (R : Room) (h1 : 8 + 1 ≤ R.frames) (h2 : 329 ≤ R.locals) : xw R yX12_need w_X12_need GT cX12_need 8 (some .int) rm_X12_need 3 := ⟨rfl, rfl, rfl, h1, h2, ⟨by decide, by decide⟩, by decide +kernel⟩
theorem c_X12_need (E : ET) (hE : EO E) (t : Nat) (ht1 : kd t = 12) (ht2 : AL E t) (x1 : Int32) (x2 : Int32) (x3 : Int32) (σ : HS) (hn : f_X12_need t x1 x2 x3 σ ≠ none) : CoI E yX12_need w_X12_need rm_X12_need [.ref (E.2.2.1 t), .int x1, .int x2, .int x3] σ (f_X12_need t x1 x2 x3 σ) := CoI.of (lv := [(0, .ref (E.2.2.1 t)), (1, .int x1), (2, .int x2), (3, .int x3)]) hE (plainFor_of_name (by decide)) rfl (Nat.le_of_ble_eq_true rfl) rfl (fun F hC hO hR => k_X12_need_0 hC hO hR hn t ht1 ht2 x1 x2 x3 σ rfl)
def rm_X12_edge : Room := { frames := 7, cells := 0, slots := 0, locals := 239 }
set_option maxHeartbeats 4000000 in
set_option maxRecDepth 100000 in
theorem k_X12_edge_45 {E : ET} {F : FT} {fo : Option (Int32 × HS)} (hC : Cx E F 6 cX12_edge RX12 GT) (hO : Ro F rm_X12_edge) (hR : RI E F .int fo) (hf : fo ≠ none) (σ : HS) (h : f_X12_edge_45 σ = fo) : G E F 45 [] [] σ := by
    refine g_iconst (v := (-1)) hC dX12_edge_45 (by decide) ?_
    exact g_iret hC hR dX12_edge_46 rfl h
set_option maxHeartbeats 4000000 in
set_option maxRecDepth 100000 in
theorem k_X12_edge_105 {E : ET} {F : FT} {fo : Option (Int32 × HS)} (hC : Cx E F 6 cX12_edge RX12 GT) (hO : Ro F rm_X12_edge) (hR : RI E F .int fo) (hf : fo ≠ none) (t : Nat) (ht1 : kd t = 12) (ht2 : AL E t) (x4 : Int32) (σ : HS) (h : f_X12_edge_105 t x4 σ = fo) : G E F 105 [(0, .ref (E.2.2.1 t)), (4, .int x4)] [] σ := by
    refine g_aload_n hC dX12_edge_105 rfl 0 rfl ?_
    refine g_iconst (v := (-1)) hC dX12_edge_106 (by decide) ?_
    refine g_putI (k := 32) hC cr12 ui_12 tyX12_ok nmX12 ht1 ht2 (by decide) fl_X12_124 rfl rfl rfl rfl dX12_edge_107 ?_
    refine g_iload hC dX12_edge_110 1 rfl ?_
    exact g_iret hC hR dX12_edge_112 rfl h
set_option maxHeartbeats 4000000 in
set_option maxRecDepth 100000 in
theorem k_X12_edge_97 {E : ET} {F : FT} {fo : Option (Int32 × HS)} (hC : Cx E F 6 cX12_edge RX12 GT) (hO : Ro F rm_X12_edge) (hR : RI E F .int fo) (hf : fo ≠ none) (t : Nat) (ht1 : kd t = 12) (ht2 : AL E t) (x1 : Int32) (x2 : Int32) (x3 : Int32) (x5 : Int32) (s0 : Int32) (r53 : Int32 → Int32 → HS → Option (Int32 × HS)) (h53 : ∀ (x4 : Int32) (x5 : Int32) (σ : HS), r53 x4 x5 σ = fo → G E F 53 [(0, .ref (E.2.2.1 t)), (1, .int x1), (2, .int x2), (3, .int x3), (4, .int x4), (5, .int x5)] [] σ) (σ : HS) (h : f_X12_edge_97 r53 t x1 x2 x3 x5 s0 σ = fo) : G E F 97 [(0, .ref (E.2.2.1 t)), (1, .int x1), (2, .int x2), (3, .int x3), (5, .int x5)] [.int s0] σ := by
    refine g_istore (lv' := [(4, .int s0), (0, .ref (E.2.2.1 t)), (1, .int x1), (2, .int x2), (3, .int x3), (5, .int x5)]) hC dX12_edge_97 (by decide) rfl ?_
    refine g_iinc (v := x5 + 1) (lv' := [(5, .int (x5 + 1)), (4, .int s0), (0, .ref (E.2.2.1 t)), (1, .int x1), (2, .int x2), (3, .int x3)]) hC dX12_edge_99 5 rfl rfl (by decide) rfl ?_
    refine g_goto (tgt := 53) hC dX12_edge_102 (by decide) ?_
    exact g_sub [2, 3, 4, 5, 1, 0] rfl (h53 s0 (x5 + 1) σ h)
set_option maxHeartbeats 4000000 in
set_option maxRecDepth 100000 in
theorem k_X12_edge_53 {E : ET} {F : FT} {fo : Option (Int32 × HS)} (hC : Cx E F 6 cX12_edge RX12 GT) (hO : Ro F rm_X12_edge) (hR : RI E F .int fo) (hf : fo ≠ none) (t : Nat) (ht1 : kd t = 12) (ht2 : AL E t) (x1 : Int32) (x2 : Int32) (x3 : Int32) : ∀ (n : Nat) (x4 : Int32) (x5 : Int32) (σ : HS), f_X12_edge_53 t x1 x2 x3 n x4 x5 σ = fo → G E F 53 [(0, .ref (E.2.2.1 t)), (1, .int x1), (2, .int x2), (3, .int x3), (4, .int x4), (5, .int x5)] [] σ := by
  intro n
  induction n with
  | zero =>
    intro x4 x5 σ h
    exact absurd (h.symm.trans rfl) hf
  | succ n ih =>
    intro x4 x5 σ h
    refine g_iload hC dX12_edge_53 5 rfl ?_
    refine g_bipush (v := 100) hC dX12_edge_55 (by decide) ?_
    refine g_icmp_gt (tgt := 105) hC dX12_edge_57 (by decide) h (fun c57 h => ?_) (fun c57 h => ?_)
    · exact g_sub [0, 4] rfl (k_X12_edge_105 hC hO hR hf t ht1 ht2 x4 σ h)
    · refine g_iload hC dX12_edge_60 4 rfl ?_
      refine g_if_ge (tgt := 105) hC dX12_edge_62 (by decide) h (fun c62 h => ?_) (fun c62 h => ?_)
      · exact g_sub [0, 4] rfl (k_X12_edge_105 hC hO hR hf t ht1 ht2 x4 σ h)
      · refine g_aload_n hC dX12_edge_65 rfl 0 rfl ?_
        refine g_iload_n hC dX12_edge_66 rfl 1 rfl ?_
        refine g_putI (k := 32) hC cr12 ui_12 tyX12_ok nmX12 ht1 ht2 (by decide) fl_X12_124 rfl rfl rfl rfl dX12_edge_67 ?_
        refine g_aload_n hC dX12_edge_70 rfl 0 rfl ?_
        refine g_iload_n hC dX12_edge_71 rfl 3 rfl ?_
        refine g_putI (k := 33) hC cr12 ui_12 tyX12_ok nmX12 ht1 ht2 (by decide) fl_X12_304 rfl rfl rfl rfl dX12_edge_72 ?_
        refine g_aload_n hC dX12_edge_75 rfl 0 rfl ?_
        refine g_iload hC dX12_edge_76 5 rfl ?_
        refine g_putI (k := 34) hC cr12 ui_12 tyX12_ok nmX12 ht1 ht2 (by decide) fl_X12_307 rfl rfl rfl rfl dX12_edge_78 ?_
        refine g_aload_n hC dX12_edge_81 rfl 0 rfl ?_
        refine g_iload_n hC dX12_edge_82 rfl 1 rfl ?_
        refine g_iload_n hC dX12_edge_83 rfl 2 rfl ?_
        refine g_iconst (v := 0) hC dX12_edge_84 (by decide) ?_
        obtain ⟨q1, hq1, h⟩ := bd_of h hf
        refine g_cVI (As := [.int x1, .int x2, .int 0]) hC hO (c_X12_isBetter _ hC.2.2.2.2.2.2.1 t ht1 ht2 x1 x2 0 (sI (sI (sI σ t 32 x1) t 33 x3) t 34 x5) (nn_of hq1)) gc_X12_323 (xk_X12_isBetter _ (Nat.le_of_ble_eq_true rfl) (Nat.le_of_ble_eq_true rfl)) cr12 ht1 ht2 rfl (Nat.le_of_ble_eq_true rfl) dX12_edge_85 hq1 ?_
        refine g_if_eq (tgt := 96) hC dX12_edge_88 (by decide) h (fun c88 h => ?_) (fun c88 h => ?_)
        · refine g_iconst (v := (-1)) hC dX12_edge_96 (by decide) ?_
          exact g_sub [0, 1, 2, 3, 5] rfl (k_X12_edge_97 hC hO hR hf t ht1 ht2 x1 x2 x3 x5 (-1) (f_X12_edge_53 t x1 x2 x3 n) ih q1.2 h)
        · refine g_iload hC dX12_edge_91 5 rfl ?_
          refine g_goto (tgt := 97) hC dX12_edge_93 (by decide) ?_
          exact g_sub [0, 1, 2, 3, 5] rfl (k_X12_edge_97 hC hO hR hf t ht1 ht2 x1 x2 x3 x5 x5 (f_X12_edge_53 t x1 x2 x3 n) ih q1.2 h)
set_option maxHeartbeats 4000000 in
set_option maxRecDepth 100000 in
theorem k_X12_edge_0 {E : ET} {F : FT} {fo : Option (Int32 × HS)} (hC : Cx E F 6 cX12_edge RX12 GT) (hO : Ro F rm_X12_edge) (hR : RI E F .int fo) (hf : fo ≠ none) (t : Nat) (ht1 : kd t = 12) (ht2 : AL E t) (x1 : Int32) (x2 : Int32) (x3 : Int32) (σ : HS) (h : f_X12_edge t x1 x2 x3 σ = fo) : G E F 0 [(0, .ref (E.2.2.1 t)), (1, .int x1), (2, .int x2), (3, .int x3)] [] σ := by
    refine g_aload_n hC dX12_edge_0 rfl 0 rfl ?_
    refine g_iconst (v := 0) hC dX12_edge_1 (by decide) ?_
    refine g_putI (k := 0) hC cr12 ui_12 tyX12_ok nmX12 ht1 ht2 (by decide) fl_X12_1 rfl rfl rfl rfl dX12_edge_2 ?_
    refine g_aload_n hC dX12_edge_5 rfl 0 rfl ?_
    refine g_iload_n hC dX12_edge_6 rfl 1 rfl ?_
    refine g_iload_n hC dX12_edge_7 rfl 2 rfl ?_
    obtain ⟨q1, hq1, h⟩ := bd_of h hf
    refine g_cVI (As := [.int x1, .int x2]) hC hO (c_X12_areTwo _ hC.2.2.2.2.2.2.1 t ht1 ht2 x1 x2 (sI σ t 0 0) (nn_of hq1)) gc_X12_377 (xk_X12_areTwo _ (Nat.le_of_ble_eq_true rfl) (Nat.le_of_ble_eq_true rfl)) cr12 ht1 ht2 rfl (Nat.le_of_ble_eq_true rfl) dX12_edge_8 hq1 ?_
    refine g_if_eq (tgt := 45) hC dX12_edge_11 (by decide) h (fun c11 h => ?_) (fun c11 h => ?_)
    · exact g_sub [] rfl (k_X12_edge_45 hC hO hR hf q1.2 h)
    · refine g_iload_n hC dX12_edge_14 rfl 3 rfl ?_
      refine g_iconst (v := 0) hC dX12_edge_15 (by decide) ?_
      refine g_aload_n hC dX12_edge_16 rfl 0 rfl ?_
      refine g_getI (k := 20) hC cr12 ui_12 ht1 ht2 (by decide) fl_X12_193 rfl rfl dX12_edge_17 ?_
      refine g_iconst (v := 1) hC dX12_edge_20 (by decide) ?_
      refine g_isub hC dX12_edge_21 ?_
      obtain ⟨q2, hq2, h⟩ := bd_of h hf
      refine g_cSI (As := [.int x3, .int 0, .int ((q1.2.1 t 20) - 1)]) hC hO (c_X12_within _ hC.2.2.2.2.2.2.1 x3 0 ((q1.2.1 t 20) - 1) q1.2 (nn_of hq2)) gc_X12_213 (xk_X12_within _ (Nat.le_of_ble_eq_true rfl) (Nat.le_of_ble_eq_true rfl)) rfl (Nat.le_of_ble_eq_true rfl) dX12_edge_22 hq2 ?_
      refine g_if_eq (tgt := 45) hC dX12_edge_25 (by decide) h (fun c25 h => ?_) (fun c25 h => ?_)
      · exact g_sub [] rfl (k_X12_edge_45 hC hO hR hf q2.2 h)
      · refine g_aload_n hC dX12_edge_28 rfl 0 rfl ?_
        obtain ⟨q3, hq3, h⟩ := bd_of h hf
        refine g_cVI (As := []) hC hO (c_X12_findNow _ hC.2.2.2.2.2.2.1 t ht1 ht2 q2.2 (nn_of hq3)) gc_X12_361 (xk_X12_findNow _ (Nat.le_of_ble_eq_true rfl) (Nat.le_of_ble_eq_true rfl)) cr12 ht1 ht2 rfl (Nat.le_of_ble_eq_true rfl) dX12_edge_29 hq3 ?_
        refine g_if_eq (tgt := 45) hC dX12_edge_32 (by decide) h (fun c32 h => ?_) (fun c32 h => ?_)
        · exact g_sub [] rfl (k_X12_edge_45 hC hO hR hf q3.2 h)
        · refine g_aload_n hC dX12_edge_35 rfl 0 rfl ?_
          refine g_iload_n hC dX12_edge_36 rfl 1 rfl ?_
          refine g_iload_n hC dX12_edge_37 rfl 2 rfl ?_
          refine g_iconst (v := 0) hC dX12_edge_38 (by decide) ?_
          obtain ⟨q4, hq4, h⟩ := bd_of h hf
          refine g_cVI (As := [.int x1, .int x2, .int 0]) hC hO (c_X12_isBetter _ hC.2.2.2.2.2.2.1 t ht1 ht2 x1 x2 0 q3.2 (nn_of hq4)) gc_X12_323 (xk_X12_isBetter _ (Nat.le_of_ble_eq_true rfl) (Nat.le_of_ble_eq_true rfl)) cr12 ht1 ht2 rfl (Nat.le_of_ble_eq_true rfl) dX12_edge_39 hq4 ?_
          refine g_if_ne (tgt := 47) hC dX12_edge_42 (by decide) h (fun c42 h => ?_) (fun c42 h => ?_)
          · refine g_iconst (v := (-1)) hC dX12_edge_47 (by decide) ?_
            refine g_istore (lv' := [(4, .int (-1)), (0, .ref (E.2.2.1 t)), (1, .int x1), (2, .int x2), (3, .int x3)]) hC dX12_edge_48 (by decide) rfl ?_
            refine g_iconst (v := 0) hC dX12_edge_50 (by decide) ?_
            refine g_istore (lv' := [(5, .int 0), (4, .int (-1)), (0, .ref (E.2.2.1 t)), (1, .int x1), (2, .int x2), (3, .int x3)]) hC dX12_edge_51 (by decide) rfl ?_
            exact g_sub [2, 3, 4, 5, 1, 0] rfl (k_X12_edge_53 hC hO hR hf t ht1 ht2 x1 x2 x3 FU (-1) 0 q4.2 h)
          · exact g_sub [] rfl (k_X12_edge_45 hC hO hR hf q4.2 h)
theorem xk_X12_edge (R : Room) (h1 : 7 + 1 ≤ R.frames) (h2 : 276 ≤ R.locals) : xw R yX12_edge w_X12_edge GT cX12_edge 6 (some .int) rm_X12_edge 3 := ⟨rfl, rfl, rfl, h1, h2, ⟨by decide, by decide⟩, by decide +kernel⟩
theorem c_X12_edge (E : ET) (hE : EO E) (t : Nat) (ht1 : kd t = 12) (ht2 : AL E t) (x1 : Int32) (x2 : Int32) (x3 : Int32) (σ : HS) (hn : f_X12_edge t x1 x2 x3 σ ≠ none) : CoI E yX12_edge w_X12_edge rm_X12_edge [.ref (E.2.2.1 t), .int x1, .int x2, .int x3] σ (f_X12_edge t x1 x2 x3 σ) := CoI.of (lv := [(0, .ref (E.2.2.1 t)), (1, .int x1), (2, .int x2), (3, .int x3)]) hE (plainFor_of_name (by decide)) rfl (Nat.le_of_ble_eq_true rfl) rfl (fun F hC hO hR => k_X12_edge_0 hC hO hR hn t ht1 ht2 x1 x2 x3 σ rfl)
def rm_X12_isBestBy : Room := { frames := 3, cells := 0, slots := 0, locals := 105 }
set_option maxHeartbeats 4000000 in
set_option maxRecDepth 100000 in
theorem k_X12_isBestBy_41 {E : ET} {F : FT} {fo : Option (Int32 × HS)} (hC : Cx E F 4 cX12_isBestBy RX12 GT) (hO : Ro F rm_X12_isBestBy) (hR : RI E F .boolean fo) (hf : fo ≠ none) (t : Nat) (ht1 : kd t = 12) (ht2 : AL E t) (x1 : Int32) (x3 : Int32) (s0 : Int32) (r4 : Int32 → Int32 → HS → Option (Int32 × HS)) (h4 : ∀ (x2 : Int32) (x3 : Int32) (σ : HS), r4 x2 x3 σ = fo → G E F 4 [(0, .ref (E.2.2.1 t)), (1, .int x1), (2, .int x2), (3, .int x3)] [] σ) (σ : HS) (h : f_X12_isBestBy_41 r4 t x1 x3 s0 σ = fo) : G E F 41 [(0, .ref (E.2.2.1 t)), (1, .int x1), (3, .int x3)] [.int s0] σ := by
    refine g_istore_n (lv' := [(2, .int s0), (0, .ref (E.2.2.1 t)), (1, .int x1), (3, .int x3)]) hC dX12_isBestBy_41 rfl (by decide) rfl ?_
    refine g_iinc (v := x3 + 1) (lv' := [(3, .int (x3 + 1)), (2, .int s0), (0, .ref (E.2.2.1 t)), (1, .int x1)]) hC dX12_isBestBy_42 3 rfl rfl (by decide) rfl ?_
    refine g_goto (tgt := 4) hC dX12_isBestBy_45 (by decide) ?_
    exact g_sub [2, 3, 1, 0] rfl (h4 s0 (x3 + 1) σ h)
set_option maxHeartbeats 4000000 in
set_option maxRecDepth 100000 in
theorem k_X12_isBestBy_40 {E : ET} {F : FT} {fo : Option (Int32 × HS)} (hC : Cx E F 4 cX12_isBestBy RX12 GT) (hO : Ro F rm_X12_isBestBy) (hR : RI E F .boolean fo) (hf : fo ≠ none) (t : Nat) (ht1 : kd t = 12) (ht2 : AL E t) (x1 : Int32) (x3 : Int32) (r4 : Int32 → Int32 → HS → Option (Int32 × HS)) (h4 : ∀ (x2 : Int32) (x3 : Int32) (σ : HS), r4 x2 x3 σ = fo → G E F 4 [(0, .ref (E.2.2.1 t)), (1, .int x1), (2, .int x2), (3, .int x3)] [] σ) (σ : HS) (h : f_X12_isBestBy_40 r4 t x1 x3 σ = fo) : G E F 40 [(0, .ref (E.2.2.1 t)), (1, .int x1), (3, .int x3)] [] σ := by
    refine g_iconst (v := 0) hC dX12_isBestBy_40 (by decide) ?_
    exact g_sub [0, 1, 2] rfl (k_X12_isBestBy_41 hC hO hR hf t ht1 ht2 x1 x3 0 r4 h4 σ h)
set_option maxHeartbeats 4000000 in
set_option maxRecDepth 100000 in
theorem k_X12_isBestBy_36 {E : ET} {F : FT} {fo : Option (Int32 × HS)} (hC : Cx E F 4 cX12_isBestBy RX12 GT) (hO : Ro F rm_X12_isBestBy) (hR : RI E F .boolean fo) (hf : fo ≠ none) (t : Nat) (ht1 : kd t = 12) (ht2 : AL E t) (x1 : Int32) (x3 : Int32) (r4 : Int32 → Int32 → HS → Option (Int32 × HS)) (h4 : ∀ (x2 : Int32) (x3 : Int32) (σ : HS), r4 x2 x3 σ = fo → G E F 4 [(0, .ref (E.2.2.1 t)), (1, .int x1), (2, .int x2), (3, .int x3)] [] σ) (σ : HS) (h : f_X12_isBestBy_36 r4 t x1 x3 σ = fo) : G E F 36 [(0, .ref (E.2.2.1 t)), (1, .int x1), (3, .int x3)] [] σ := by
    refine g_iconst (v := 1) hC dX12_isBestBy_36 (by decide) ?_
    refine g_goto (tgt := 41) hC dX12_isBestBy_37 (by decide) ?_
    exact g_sub [0, 1, 2] rfl (k_X12_isBestBy_41 hC hO hR hf t ht1 ht2 x1 x3 1 r4 h4 σ h)
set_option maxHeartbeats 4000000 in
set_option maxRecDepth 100000 in
theorem k_X12_isBestBy_4 {E : ET} {F : FT} {fo : Option (Int32 × HS)} (hC : Cx E F 4 cX12_isBestBy RX12 GT) (hO : Ro F rm_X12_isBestBy) (hR : RI E F .boolean fo) (hf : fo ≠ none) (t : Nat) (ht1 : kd t = 12) (ht2 : AL E t) (x1 : Int32) : ∀ (n : Nat) (x2 : Int32) (x3 : Int32) (σ : HS), f_X12_isBestBy_4 t x1 n x2 x3 σ = fo → G E F 4 [(0, .ref (E.2.2.1 t)), (1, .int x1), (2, .int x2), (3, .int x3)] [] σ := by
  intro n
  induction n with
  | zero =>
    intro x2 x3 σ h
    exact absurd (h.symm.trans rfl) hf
  | succ n ih =>
    intro x2 x3 σ h
    refine g_iload_n hC dX12_isBestBy_4 rfl 3 rfl ?_
    refine g_bipush (v := 8) hC dX12_isBestBy_5 (by decide) ?_
    refine g_icmp_ge (tgt := 48) hC dX12_isBestBy_7 (by decide) h (fun c7 h => ?_) (fun c7 h => ?_)
    · refine g_iload_n hC dX12_isBestBy_48 rfl 2 rfl ?_
      obtain ⟨hz, h⟩ := zr_of h hf
      exact g_iret hC hR dX12_isBestBy_49 hz h
    · refine g_iload_n hC dX12_isBestBy_10 rfl 2 rfl ?_
      refine g_if_eq (tgt := 40) hC dX12_isBestBy_11 (by decide) h (fun c11 h => ?_) (fun c11 h => ?_)
      · exact g_sub [0, 1, 3] rfl (k_X12_isBestBy_40 hC hO hR hf t ht1 ht2 x1 x3 (f_X12_isBestBy_4 t x1 n) ih σ h)
      · refine g_aload_n hC dX12_isBestBy_14 rfl 0 rfl ?_
        refine g_iload_n hC dX12_isBestBy_15 rfl 3 rfl ?_
        obtain ⟨q1, hq1, h⟩ := bd_of h hf
        refine g_cVI (As := [.int x3]) hC hO (c_X12_isIn _ hC.2.2.2.2.2.2.1 t ht1 ht2 x3 σ (nn_of hq1)) gc_X12_223 (xk_X12_isIn _ (Nat.le_of_ble_eq_true rfl) (Nat.le_of_ble_eq_true rfl)) cr12 ht1 ht2 rfl (Nat.le_of_ble_eq_true rfl) dX12_isBestBy_16 hq1 ?_
        refine g_if_eq (tgt := 36) hC dX12_isBestBy_19 (by decide) h (fun c19 h => ?_) (fun c19 h => ?_)
        · exact g_sub [0, 1, 3] rfl (k_X12_isBestBy_36 hC hO hR hf t ht1 ht2 x1 x3 (f_X12_isBestBy_4 t x1 n) ih q1.2 h)
        · refine g_aload_n hC dX12_isBestBy_22 rfl 0 rfl ?_
          refine g_iload_n hC dX12_isBestBy_23 rfl 1 rfl ?_
          obtain ⟨q2, hq2, h⟩ := bd_of h hf
          refine g_cVJ (As := [.int x1]) hC hO (c_X12_goodBy _ hC.2.2.2.2.2.2.1 t ht1 ht2 x1 q1.2 (nn_of hq2)) gc_X12_353 (xk_X12_goodBy _ (Nat.le_of_ble_eq_true rfl) (Nat.le_of_ble_eq_true rfl)) cr12 ht1 ht2 rfl (Nat.le_of_ble_eq_true rfl) dX12_isBestBy_24 hq2 ?_
          refine g_aload_n hC dX12_isBestBy_27 rfl 0 rfl ?_
          refine g_iload_n hC dX12_isBestBy_28 rfl 3 rfl ?_
          obtain ⟨q3, hq3, h⟩ := bd_of h hf
          refine g_cVJ (As := [.int x3]) hC hO (c_X12_goodBy _ hC.2.2.2.2.2.2.1 t ht1 ht2 x3 q2.2 (nn_of hq3)) gc_X12_353 (xk_X12_goodBy _ (Nat.le_of_ble_eq_true rfl) (Nat.le_of_ble_eq_true rfl)) cr12 ht1 ht2 rfl (Nat.le_of_ble_eq_true rfl) dX12_isBestBy_29 hq3 ?_
          refine g_lc_lt (tgt := 40) hC dX12_isBestBy_32 dX12_isBestBy_33 (by decide) h (fun c32 h => ?_) (fun c32 h => ?_)
          · exact g_sub [0, 1, 3] rfl (k_X12_isBestBy_40 hC hO hR hf t ht1 ht2 x1 x3 (f_X12_isBestBy_4 t x1 n) ih q3.2 h)
          · exact g_sub [0, 1, 3] rfl (k_X12_isBestBy_36 hC hO hR hf t ht1 ht2 x1 x3 (f_X12_isBestBy_4 t x1 n) ih q3.2 h)
set_option maxHeartbeats 4000000 in
set_option maxRecDepth 100000 in
theorem k_X12_isBestBy_0 {E : ET} {F : FT} {fo : Option (Int32 × HS)} (hC : Cx E F 4 cX12_isBestBy RX12 GT) (hO : Ro F rm_X12_isBestBy) (hR : RI E F .boolean fo) (hf : fo ≠ none) (t : Nat) (ht1 : kd t = 12) (ht2 : AL E t) (x1 : Int32) (σ : HS) (h : f_X12_isBestBy t x1 σ = fo) : G E F 0 [(0, .ref (E.2.2.1 t)), (1, .int x1)] [] σ := by
    refine g_iconst (v := 1) hC dX12_isBestBy_0 (by decide) ?_
    refine g_istore_n (lv' := [(2, .int 1), (0, .ref (E.2.2.1 t)), (1, .int x1)]) hC dX12_isBestBy_1 rfl (by decide) rfl ?_
    refine g_iconst (v := 0) hC dX12_isBestBy_2 (by decide) ?_
    refine g_istore_n (lv' := [(3, .int 0), (2, .int 1), (0, .ref (E.2.2.1 t)), (1, .int x1)]) hC dX12_isBestBy_3 rfl (by decide) rfl ?_
    exact g_sub [2, 3, 1, 0] rfl (k_X12_isBestBy_4 hC hO hR hf t ht1 ht2 x1 FU 1 0 σ h)
theorem xk_X12_isBestBy (R : Room) (h1 : 3 + 1 ≤ R.frames) (h2 : 140 ≤ R.locals) : xw R yX12_isBestBy w_X12_isBestBy GT cX12_isBestBy 4 (some .boolean) rm_X12_isBestBy 1 := ⟨rfl, rfl, rfl, h1, h2, ⟨by decide, by decide⟩, by decide +kernel⟩
theorem c_X12_isBestBy (E : ET) (hE : EO E) (t : Nat) (ht1 : kd t = 12) (ht2 : AL E t) (x1 : Int32) (σ : HS) (hn : f_X12_isBestBy t x1 σ ≠ none) : CoI E yX12_isBestBy w_X12_isBestBy rm_X12_isBestBy [.ref (E.2.2.1 t), .int x1] σ (f_X12_isBestBy t x1 σ) := CoI.of (lv := [(0, .ref (E.2.2.1 t)), (1, .int x1)]) hE (plainFor_of_name (by decide)) rfl (Nat.le_of_ble_eq_true rfl) rfl (fun F hC hO hR => k_X12_isBestBy_0 hC hO hR hn t ht1 ht2 x1 σ rfl)
def rm_X12_shareFrom (i : Nat) : Room := { frames := 4 + i, cells := 0, slots := 0, locals := 140 + i * 37 }
theorem xk_X12_shareFrom (i : Nat) (R : Room) (h1 : (rm_X12_shareFrom i).frames + 1 ≤ R.frames) (h2 : 37 + (rm_X12_shareFrom i).locals ≤ R.locals) : xw R yX12_shareFrom w_X12_shareFrom GT cX12_shareFrom 6 (some .int) (rm_X12_shareFrom i) 3 := ⟨rfl, rfl, rfl, h1, h2, ⟨by decide, by decide⟩, by decide +kernel⟩
theorem wc_X12_shareFrom : Cond.code yX12_shareFrom cX12_shareFrom 6 (some .int) ∈ GT := gtr_51 _ (List.mem_of_getElem? (i := 6) rfl)
theorem gc_X12_434 : GoodIn GT (wsV RX12 434 RX12 yX12_shareFrom w_X12_shareFrom) := gi_V (gtr_51 _ (List.mem_of_getElem? (i := 3) rfl)) (gtr_51 _ (List.mem_of_getElem? (i := 4) rfl)) (gtr_51 _ (List.mem_of_getElem? (i := 5) rfl)) (gtr_1 _ (List.mem_of_getElem? (i := 5) rfl)) wc_X12_shareFrom
theorem wc_X12_isBestBy : Cond.code yX12_isBestBy cX12_isBestBy 4 (some .boolean) ∈ GT := gtr_51 _ (List.mem_of_getElem? (i := 10) rfl)
theorem gc_X12_431 : GoodIn GT (wsV RX12 431 RX12 yX12_isBestBy w_X12_isBestBy) := gi_V (gtr_51 _ (List.mem_of_getElem? (i := 7) rfl)) (gtr_51 _ (List.mem_of_getElem? (i := 8) rfl)) (gtr_51 _ (List.mem_of_getElem? (i := 9) rfl)) (gtr_1 _ (List.mem_of_getElem? (i := 5) rfl)) wc_X12_isBestBy
set_option maxHeartbeats 4000000 in
set_option maxRecDepth 100000 in
theorem k_X12_shareFrom_49 {E : ET} {F : FT} {fo : Option (Int32 × HS)} {d : Nat} (hC : Cx E F 6 cX12_shareFrom RX12 GT) (hO : Ro F (rm_X12_shareFrom (1 * d + 1))) (hR : RI E F .int fo) (hf : fo ≠ none) (rc : Nat → Int32 → Int32 → Int32 → HS → Option (Int32 × HS)) (hrc : ∀ (t : Nat) (_ : kd t = 12) (_ : AL E t) (x1 : Int32) (x2 : Int32) (x3 : Int32) (σ : HS), rc t x1 x2 x3 σ ≠ none → CoI E yX12_shareFrom w_X12_shareFrom (rm_X12_shareFrom (1 * d)) [.ref (E.2.2.1 t), .int x1, .int x2, .int x3] σ (rc t x1 x2 x3 σ)) (t : Nat) (ht1 : kd t = 12) (ht2 : AL E t) (x1 : Int32) (x2 : Int32) (x3 : Int32) : ∀ (n : Nat) (x4 : Int32) (x5 : Int32) (σ : HS), f_X12_shareFrom_49 rc t x1 x2 x3 n x4 x5 σ = fo → G E F 49 [(0, .ref (E.2.2.1 t)), (1, .int x1), (2, .int x2), (3, .int x3), (4, .int x4), (5, .int x5)] [] σ := by
  intro n
  induction n with
  | zero =>
    intro x4 x5 σ h
    exact absurd (h.symm.trans rfl) hf
  | succ n ih =>
    intro x4 x5 σ h
    refine g_iload hC dX12_shareFrom_49 5 rfl ?_
    refine g_iload_n hC dX12_shareFrom_51 rfl 3 rfl ?_
    refine g_icmp_gt (tgt := 87) hC dX12_shareFrom_52 (by decide) h (fun c52 h => ?_) (fun c52 h => ?_)
    · refine g_iload hC dX12_shareFrom_87 4 rfl ?_
      exact g_iret hC hR dX12_shareFrom_89 rfl h
    · refine g_aload_n hC dX12_shareFrom_55 rfl 0 rfl ?_
      refine g_getR (cj := 15) (k := 35) hC cr12 ui_12 ht1 ht2 (by decide) fl_X12_127 rfl rfl dX12_shareFrom_56 h hf (fun a1 ea1 ka1 na1 h => ?_)
      refine g_iload_n hC dX12_shareFrom_59 rfl 2 rfl ?_
      refine g_iload hC dX12_shareFrom_60 5 rfl ?_
      refine g_i2l hC dX12_shareFrom_62 ?_
      refine g_last hC ka1 na1 dX12_shareFrom_63 h hf (fun h => ?_)
      refine g_iload hC dX12_shareFrom_64 4 rfl ?_
      refine g_aload_n hC dX12_shareFrom_66 rfl 0 rfl ?_
      refine g_iload_n hC dX12_shareFrom_67 rfl 1 rfl ?_
      refine g_iload_n hC dX12_shareFrom_68 rfl 2 rfl ?_
      refine g_iconst (v := 1) hC dX12_shareFrom_69 (by decide) ?_
      refine g_iadd hC dX12_shareFrom_70 ?_
      refine g_iload_n hC dX12_shareFrom_71 rfl 3 rfl ?_
      refine g_iload hC dX12_shareFrom_72 5 rfl ?_
      refine g_isub hC dX12_shareFrom_74 ?_
      obtain ⟨q2, hq2, h⟩ := bd_of h hf
      refine g_cVI (As := [.int x1, .int (x2 + 1), .int (x3 - x5)]) hC hO (hrc t ht1 ht2 x1 (x2 + 1) (x3 - x5) (sJ σ a1 x2.toNatClampNeg x5.toInt64) (nn_of hq2)) gc_X12_434 (xk_X12_shareFrom (1 * d) _ (by simp only [rm_X12_shareFrom]; omega) (by simp only [rm_X12_shareFrom]; omega)) cr12 ht1 ht2 rfl (Nat.le_of_ble_eq_true rfl) dX12_shareFrom_75 hq2 ?_
      refine g_iadd hC dX12_shareFrom_78 ?_
      refine g_istore (lv' := [(4, .int (x4 + q2.1)), (0, .ref (E.2.2.1 t)), (1, .int x1), (2, .int x2), (3, .int x3), (5, .int x5)]) hC dX12_shareFrom_79 (by decide) rfl ?_
      refine g_iinc (v := x5 + 1) (lv' := [(5, .int (x5 + 1)), (4, .int (x4 + q2.1)), (0, .ref (E.2.2.1 t)), (1, .int x1), (2, .int x2), (3, .int x3)]) hC dX12_shareFrom_81 5 rfl rfl (by decide) rfl ?_
      refine g_goto (tgt := 49) hC dX12_shareFrom_84 (by decide) ?_
      exact g_sub [2, 3, 4, 5, 1, 0] rfl (ih (x4 + q2.1) (x5 + 1) q2.2 h)
set_option maxHeartbeats 4000000 in
set_option maxRecDepth 100000 in
theorem k_X12_shareFrom_42 {E : ET} {F : FT} {fo : Option (Int32 × HS)} {d : Nat} (hC : Cx E F 6 cX12_shareFrom RX12 GT) (hO : Ro F (rm_X12_shareFrom (1 * d + 1))) (hR : RI E F .int fo) (hf : fo ≠ none) (rc : Nat → Int32 → Int32 → Int32 → HS → Option (Int32 × HS)) (hrc : ∀ (t : Nat) (_ : kd t = 12) (_ : AL E t) (x1 : Int32) (x2 : Int32) (x3 : Int32) (σ : HS), rc t x1 x2 x3 σ ≠ none → CoI E yX12_shareFrom w_X12_shareFrom (rm_X12_shareFrom (1 * d)) [.ref (E.2.2.1 t), .int x1, .int x2, .int x3] σ (rc t x1 x2 x3 σ)) (s0 : Int32) (σ : HS) (h : f_X12_shareFrom_42 rc s0 σ = fo) : G E F 42 [] [.int s0] σ := by
    exact g_iret hC hR dX12_shareFrom_42 rfl h
set_option maxHeartbeats 4000000 in
set_option maxRecDepth 100000 in
theorem k_X12_shareFrom_41 {E : ET} {F : FT} {fo : Option (Int32 × HS)} {d : Nat} (hC : Cx E F 6 cX12_shareFrom RX12 GT) (hO : Ro F (rm_X12_shareFrom (1 * d + 1))) (hR : RI E F .int fo) (hf : fo ≠ none) (rc : Nat → Int32 → Int32 → Int32 → HS → Option (Int32 × HS)) (hrc : ∀ (t : Nat) (_ : kd t = 12) (_ : AL E t) (x1 : Int32) (x2 : Int32) (x3 : Int32) (σ : HS), rc t x1 x2 x3 σ ≠ none → CoI E yX12_shareFrom w_X12_shareFrom (rm_X12_shareFrom (1 * d)) [.ref (E.2.2.1 t), .int x1, .int x2, .int x3] σ (rc t x1 x2 x3 σ)) (σ : HS) (h : f_X12_shareFrom_41 rc σ = fo) : G E F 41 [] [] σ := by
    refine g_iconst (v := 0) hC dX12_shareFrom_41 (by decide) ?_
    exact g_sub [] rfl (k_X12_shareFrom_42 hC hO hR hf rc hrc 0 σ h)
set_option maxHeartbeats 4000000 in
set_option maxRecDepth 100000 in
theorem k_X12_shareFrom_37 {E : ET} {F : FT} {fo : Option (Int32 × HS)} {d : Nat} (hC : Cx E F 6 cX12_shareFrom RX12 GT) (hO : Ro F (rm_X12_shareFrom (1 * d + 1))) (hR : RI E F .int fo) (hf : fo ≠ none) (rc : Nat → Int32 → Int32 → Int32 → HS → Option (Int32 × HS)) (hrc : ∀ (t : Nat) (_ : kd t = 12) (_ : AL E t) (x1 : Int32) (x2 : Int32) (x3 : Int32) (σ : HS), rc t x1 x2 x3 σ ≠ none → CoI E yX12_shareFrom w_X12_shareFrom (rm_X12_shareFrom (1 * d)) [.ref (E.2.2.1 t), .int x1, .int x2, .int x3] σ (rc t x1 x2 x3 σ)) (σ : HS) (h : f_X12_shareFrom_37 rc σ = fo) : G E F 37 [] [] σ := by
    refine g_iconst (v := 1) hC dX12_shareFrom_37 (by decide) ?_
    refine g_goto (tgt := 42) hC dX12_shareFrom_38 (by decide) ?_
    exact g_sub [] rfl (k_X12_shareFrom_42 hC hO hR hf rc hrc 1 σ h)
set_option maxHeartbeats 4000000 in
set_option maxRecDepth 100000 in
theorem k_X12_shareFrom_0 {E : ET} {F : FT} {fo : Option (Int32 × HS)} {d : Nat} (hC : Cx E F 6 cX12_shareFrom RX12 GT) (hO : Ro F (rm_X12_shareFrom (1 * d + 1))) (hR : RI E F .int fo) (hf : fo ≠ none) (rc : Nat → Int32 → Int32 → Int32 → HS → Option (Int32 × HS)) (hrc : ∀ (t : Nat) (_ : kd t = 12) (_ : AL E t) (x1 : Int32) (x2 : Int32) (x3 : Int32) (σ : HS), rc t x1 x2 x3 σ ≠ none → CoI E yX12_shareFrom w_X12_shareFrom (rm_X12_shareFrom (1 * d)) [.ref (E.2.2.1 t), .int x1, .int x2, .int x3] σ (rc t x1 x2 x3 σ)) (t : Nat) (ht1 : kd t = 12) (ht2 : AL E t) (x1 : Int32) (x2 : Int32) (x3 : Int32) (σ : HS) (h : f_X12_shareFrom_0 rc t x1 x2 x3 σ = fo) : G E F 0 [(0, .ref (E.2.2.1 t)), (1, .int x1), (2, .int x2), (3, .int x3)] [] σ := by
    refine g_iload_n hC dX12_shareFrom_0 rfl 2 rfl ?_
    refine g_aload_n hC dX12_shareFrom_1 rfl 0 rfl ?_
    refine g_getI (k := 20) hC cr12 ui_12 ht1 ht2 (by decide) fl_X12_193 rfl rfl dX12_shareFrom_2 ?_
    refine g_iconst (v := 1) hC dX12_shareFrom_5 (by decide) ?_
    refine g_isub hC dX12_shareFrom_6 ?_
    refine g_icmp_ne (tgt := 43) hC dX12_shareFrom_7 (by decide) h (fun c7 h => ?_) (fun c7 h => ?_)
    · refine g_iconst (v := 0) hC dX12_shareFrom_43 (by decide) ?_
      refine g_istore (lv' := [(4, .int 0), (0, .ref (E.2.2.1 t)), (1, .int x1), (2, .int x2), (3, .int x3)]) hC dX12_shareFrom_44 (by decide) rfl ?_
      refine g_iconst (v := 0) hC dX12_shareFrom_46 (by decide) ?_
      refine g_istore (lv' := [(5, .int 0), (4, .int 0), (0, .ref (E.2.2.1 t)), (1, .int x1), (2, .int x2), (3, .int x3)]) hC dX12_shareFrom_47 (by decide) rfl ?_
      exact g_sub [2, 3, 4, 5, 1, 0] rfl (k_X12_shareFrom_49 hC hO hR hf rc hrc t ht1 ht2 x1 x2 x3 FU 0 0 σ h)
    · refine g_aload_n hC dX12_shareFrom_10 rfl 0 rfl ?_
      refine g_getR (cj := 15) (k := 35) hC cr12 ui_12 ht1 ht2 (by decide) fl_X12_127 rfl rfl dX12_shareFrom_11 h hf (fun a1 ea1 ka1 na1 h => ?_)
      refine g_iload_n hC dX12_shareFrom_14 rfl 2 rfl ?_
      refine g_iload_n hC dX12_shareFrom_15 rfl 3 rfl ?_
      refine g_i2l hC dX12_shareFrom_16 ?_
      refine g_last hC ka1 na1 dX12_shareFrom_17 h hf (fun h => ?_)
      refine g_aload_n hC dX12_shareFrom_18 rfl 0 rfl ?_
      obtain ⟨q2, hq2, h⟩ := bd_of h hf
      refine g_cVI (As := []) hC hO (c_X12_doesFit _ hC.2.2.2.2.2.2.1 t ht1 ht2 (sJ σ a1 x2.toNatClampNeg x3.toInt64) (nn_of hq2)) gc_X12_357 (xk_X12_doesFit _ (by simp only [rm_X12_shareFrom]; omega) (by simp only [rm_X12_shareFrom]; omega)) cr12 ht1 ht2 rfl (Nat.le_of_ble_eq_true rfl) dX12_shareFrom_19 hq2 ?_
      refine g_if_eq (tgt := 41) hC dX12_shareFrom_22 (by decide) h (fun c22 h => ?_) (fun c22 h => ?_)
      · exact g_sub [] rfl (k_X12_shareFrom_41 hC hO hR hf rc hrc q2.2 h)
      · refine g_iload_n hC dX12_shareFrom_25 rfl 1 rfl ?_
        refine g_if_lt (tgt := 37) hC dX12_shareFrom_26 (by decide) h (fun c26 h => ?_) (fun c26 h => ?_)
        · exact g_sub [] rfl (k_X12_shareFrom_37 hC hO hR hf rc hrc q2.2 h)
        · refine g_aload_n hC dX12_shareFrom_29 rfl 0 rfl ?_
          refine g_iload_n hC dX12_shareFrom_30 rfl 1 rfl ?_
          obtain ⟨q3, hq3, h⟩ := bd_of h hf
          refine g_cVI (As := [.int x1]) hC hO (c_X12_isBestBy _ hC.2.2.2.2.2.2.1 t ht1 ht2 x1 q2.2 (nn_of hq3)) gc_X12_431 (xk_X12_isBestBy _ (by simp only [rm_X12_shareFrom]; omega) (by simp only [rm_X12_shareFrom]; omega)) cr12 ht1 ht2 rfl (Nat.le_of_ble_eq_true rfl) dX12_shareFrom_31 hq3 ?_
          refine g_if_eq (tgt := 41) hC dX12_shareFrom_34 (by decide) h (fun c34 h => ?_) (fun c34 h => ?_)
          · exact g_sub [] rfl (k_X12_shareFrom_41 hC hO hR hf rc hrc q3.2 h)
          · exact g_sub [] rfl (k_X12_shareFrom_37 hC hO hR hf rc hrc q3.2 h)
theorem c_X12_shareFrom (E : ET) (hE : EO E) : ∀ (d : Nat) (t : Nat) (ht1 : kd t = 12) (ht2 : AL E t) (x1 : Int32) (x2 : Int32) (x3 : Int32) (σ : HS), f_X12_shareFrom d t x1 x2 x3 σ ≠ none → CoI E yX12_shareFrom w_X12_shareFrom (rm_X12_shareFrom (1 * d)) [.ref (E.2.2.1 t), .int x1, .int x2, .int x3] σ (f_X12_shareFrom d t x1 x2 x3 σ) := by
  intro d
  induction d with
  | zero => intro t ht1 ht2 x1 x2 x3 σ hn; exact absurd rfl hn
  | succ d ih =>
    intro t ht1 ht2 x1 x2 x3 σ hn
    exact CoI.of (lv := [(0, .ref (E.2.2.1 t)), (1, .int x1), (2, .int x2), (3, .int x3)]) hE (plainFor_of_name (by decide)) rfl (Nat.le_of_ble_eq_true rfl) rfl (fun F hC hO hR => k_X12_shareFrom_0 hC hO hR hn (f_X12_shareFrom d) ih t ht1 ht2 x1 x2 x3 σ rfl)
def rm_X12_share : Room := { frames := 17, cells := 0, slots := 0, locals := 621 }
set_option maxHeartbeats 4000000 in
set_option maxRecDepth 100000 in
theorem k_X12_share_28 {E : ET} {F : FT} {fo : Option (Int32 × HS)} (hC : Cx E F 3 cX12_share RX12 GT) (hO : Ro F rm_X12_share) (hR : RI E F .int fo) (hf : fo ≠ none) (σ : HS) (h : f_X12_share_28 σ = fo) : G E F 28 [] [] σ := by
    refine g_iconst (v := (-1)) hC dX12_share_28 (by decide) ?_
    exact g_iret hC hR dX12_share_29 rfl h
set_option maxHeartbeats 4000000 in
set_option maxRecDepth 100000 in
theorem k_X12_share_18 {E : ET} {F : FT} {fo : Option (Int32 × HS)} (hC : Cx E F 3 cX12_share RX12 GT) (hO : Ro F rm_X12_share) (hR : RI E F .int fo) (hf : fo ≠ none) (t : Nat) (ht1 : kd t = 12) (ht2 : AL E t) (x1 : Int32) (x2 : Int32) (σ : HS) (h : f_X12_share_18 t x1 x2 σ = fo) : G E F 18 [(0, .ref (E.2.2.1 t)), (1, .int x1), (2, .int x2)] [] σ := by
    refine g_iload_n hC dX12_share_18 rfl 2 rfl ?_
    refine g_iconst (v := 1) hC dX12_share_19 (by decide) ?_
    refine g_bipush (v := 20) hC dX12_share_20 (by decide) ?_
    obtain ⟨q1, hq1, h⟩ := bd_of h hf
    refine g_cSI (As := [.int x2, .int 1, .int 20]) hC hO (c_X12_within _ hC.2.2.2.2.2.2.1 x2 1 20 σ (nn_of hq1)) gc_X12_213 (xk_X12_within _ (Nat.le_of_ble_eq_true rfl) (Nat.le_of_ble_eq_true rfl)) rfl (Nat.le_of_ble_eq_true rfl) dX12_share_22 hq1 ?_
    refine g_if_ne (tgt := 30) hC dX12_share_25 (by decide) h (fun c25 h => ?_) (fun c25 h => ?_)
    · refine g_aload_n hC dX12_share_30 rfl 0 rfl ?_
      refine g_aload_n hC dX12_share_31 rfl 0 rfl ?_
      obtain ⟨q2, hq2, h⟩ := bd_of h hf
      refine g_cVI (As := []) hC hO (c_X12_heard _ hC.2.2.2.2.2.2.1 t ht1 ht2 q1.2 (nn_of hq2)) gc_X12_295 (xk_X12_heard _ (Nat.le_of_ble_eq_true rfl) (Nat.le_of_ble_eq_true rfl)) cr12 ht1 ht2 rfl (Nat.le_of_ble_eq_true rfl) dX12_share_32 hq2 ?_
      obtain ⟨q3, hq3, h⟩ := bd_of h hf
      refine g_cVV (As := [.int q2.1]) hC hO (c_X12_laysRows _ hC.2.2.2.2.2.2.1 t ht1 ht2 q2.1 q2.2 (nn_of hq3)) gc_X12_298 (xk_X12_laysRows _ (Nat.le_of_ble_eq_true rfl) (Nat.le_of_ble_eq_true rfl)) cr12 ht1 ht2 rfl (Nat.le_of_ble_eq_true rfl) dX12_share_35 hq3 ?_
      refine g_aload_n hC dX12_share_38 rfl 0 rfl ?_
      refine g_iconst (v := 0) hC dX12_share_39 (by decide) ?_
      refine g_iconst (v := 0) hC dX12_share_40 (by decide) ?_
      refine g_iconst (v := 0) hC dX12_share_41 (by decide) ?_
      refine g_iconst (v := 0) hC dX12_share_42 (by decide) ?_
      obtain ⟨q4, hq4, h⟩ := bd_of h hf
      refine g_cVV (As := [.int 0, .int 0, .int 0, .int 0]) hC hO (c_X12_givesWeights _ hC.2.2.2.2.2.2.1 t ht1 ht2 0 0 0 0 q3 (nn_of hq4)) gc_X12_349 (xk_X12_givesWeights _ (Nat.le_of_ble_eq_true rfl) (Nat.le_of_ble_eq_true rfl)) cr12 ht1 ht2 rfl (Nat.le_of_ble_eq_true rfl) dX12_share_43 hq4 ?_
      refine g_aload_n hC dX12_share_46 rfl 0 rfl ?_
      refine g_iload_n hC dX12_share_47 rfl 1 rfl ?_
      refine g_iconst (v := 0) hC dX12_share_48 (by decide) ?_
      refine g_iload_n hC dX12_share_49 rfl 2 rfl ?_
      obtain ⟨q5, hq5, h⟩ := bd_of h hf
      refine g_cVI (As := [.int x1, .int 0, .int x2]) hC hO (c_X12_shareFrom _ hC.2.2.2.2.2.2.1 DEP t ht1 ht2 x1 0 x2 q4 (nn_of hq5)) gc_X12_434 (xk_X12_shareFrom (1 * DEP) _ (Nat.le_of_ble_eq_true rfl) (Nat.le_of_ble_eq_true rfl)) cr12 ht1 ht2 rfl (Nat.le_of_ble_eq_true rfl) dX12_share_50 hq5 ?_
      exact g_iret hC hR dX12_share_53 rfl h
    · exact g_sub [] rfl (k_X12_share_28 hC hO hR hf q1.2 h)
set_option maxHeartbeats 4000000 in
set_option maxRecDepth 100000 in
theorem k_X12_share_0 {E : ET} {F : FT} {fo : Option (Int32 × HS)} (hC : Cx E F 3 cX12_share RX12 GT) (hO : Ro F rm_X12_share) (hR : RI E F .int fo) (hf : fo ≠ none) (t : Nat) (ht1 : kd t = 12) (ht2 : AL E t) (x1 : Int32) (x2 : Int32) (σ : HS) (h : f_X12_share t x1 x2 σ = fo) : G E F 0 [(0, .ref (E.2.2.1 t)), (1, .int x1), (2, .int x2)] [] σ := by
    refine g_aload_n hC dX12_share_0 rfl 0 rfl ?_
    refine g_iconst (v := 0) hC dX12_share_1 (by decide) ?_
    refine g_putI (k := 0) hC cr12 ui_12 tyX12_ok nmX12 ht1 ht2 (by decide) fl_X12_1 rfl rfl rfl rfl dX12_share_2 ?_
    refine g_iload_n hC dX12_share_5 rfl 1 rfl ?_
    refine g_iconst (v := (-1)) hC dX12_share_6 (by decide) ?_
    refine g_icmp_eq (tgt := 18) hC dX12_share_7 (by decide) h (fun c7 h => ?_) (fun c7 h => ?_)
    · exact g_sub [0, 1, 2] rfl (k_X12_share_18 hC hO hR hf t ht1 ht2 x1 x2 (sI σ t 0 0) h)
    · refine g_aload_n hC dX12_share_10 rfl 0 rfl ?_
      refine g_iload_n hC dX12_share_11 rfl 1 rfl ?_
      obtain ⟨q1, hq1, h⟩ := bd_of h hf
      refine g_cVI (As := [.int x1]) hC hO (c_X12_isThingIn _ hC.2.2.2.2.2.2.1 t ht1 ht2 x1 (sI σ t 0 0) (nn_of hq1)) gc_X12_383 (xk_X12_isThingIn _ (Nat.le_of_ble_eq_true rfl) (Nat.le_of_ble_eq_true rfl)) cr12 ht1 ht2 rfl (Nat.le_of_ble_eq_true rfl) dX12_share_12 hq1 ?_
      refine g_if_eq (tgt := 28) hC dX12_share_15 (by decide) h (fun c15 h => ?_) (fun c15 h => ?_)
      · exact g_sub [] rfl (k_X12_share_28 hC hO hR hf q1.2 h)
      · exact g_sub [0, 1, 2] rfl (k_X12_share_18 hC hO hR hf t ht1 ht2 x1 x2 q1.2 h)
theorem xk_X12_share (R : Room) (h1 : 17 + 1 ≤ R.frames) (h2 : 655 ≤ R.locals) : xw R yX12_share w_X12_share GT cX12_share 3 (some .int) rm_X12_share 2 := ⟨rfl, rfl, rfl, h1, h2, ⟨by decide, by decide⟩, by decide +kernel⟩
theorem c_X12_share (E : ET) (hE : EO E) (t : Nat) (ht1 : kd t = 12) (ht2 : AL E t) (x1 : Int32) (x2 : Int32) (σ : HS) (hn : f_X12_share t x1 x2 σ ≠ none) : CoI E yX12_share w_X12_share rm_X12_share [.ref (E.2.2.1 t), .int x1, .int x2] σ (f_X12_share t x1 x2 σ) := CoI.of (lv := [(0, .ref (E.2.2.1 t)), (1, .int x1), (2, .int x2)]) hE (plainFor_of_name (by decide)) rfl (Nat.le_of_ble_eq_true rfl) rfl (fun F hC hO hR => k_X12_share_0 hC hO hR hn t ht1 ht2 x1 x2 σ rfl)
def rm_X12_sayingsOf : Room := { frames := 0, cells := 0, slots := 0, locals := 0 }
set_option maxHeartbeats 4000000 in
set_option maxRecDepth 100000 in
theorem k_X12_sayingsOf_36 {E : ET} {F : FT} {fo : Option (Int32 × HS)} (hC : Cx E F 4 cX12_sayingsOf RX12 GT) (hO : Ro F rm_X12_sayingsOf) (hR : RI E F .int fo) (hf : fo ≠ none) (t : Nat) (ht1 : kd t = 12) (ht2 : AL E t) (x1 : Int32) (x3 : Int32) (s0 : Int32) (s1 : Int32) (r4 : Int32 → Int32 → HS → Option (Int32 × HS)) (h4 : ∀ (x2 : Int32) (x3 : Int32) (σ : HS), r4 x2 x3 σ = fo → G E F 4 [(0, .ref (E.2.2.1 t)), (1, .int x1), (2, .int x2), (3, .int x3)] [] σ) (σ : HS) (h : f_X12_sayingsOf_36 r4 t x1 x3 s0 s1 σ = fo) : G E F 36 [(0, .ref (E.2.2.1 t)), (1, .int x1), (3, .int x3)] [.int s0, .int s1] σ := by
    refine g_ior hC dX12_sayingsOf_36 ?_
    refine g_istore_n (lv' := [(2, .int (s1 ||| s0)), (0, .ref (E.2.2.1 t)), (1, .int x1), (3, .int x3)]) hC dX12_sayingsOf_37 rfl (by decide) rfl ?_
    refine g_iinc (v := x3 + 1) (lv' := [(3, .int (x3 + 1)), (2, .int (s1 ||| s0)), (0, .ref (E.2.2.1 t)), (1, .int x1)]) hC dX12_sayingsOf_38 3 rfl rfl (by decide) rfl ?_
    refine g_goto (tgt := 4) hC dX12_sayingsOf_41 (by decide) ?_
    exact g_sub [2, 3, 1, 0] rfl (h4 (s1 ||| s0) (x3 + 1) σ h)
set_option maxHeartbeats 4000000 in
set_option maxRecDepth 100000 in
theorem k_X12_sayingsOf_4 {E : ET} {F : FT} {fo : Option (Int32 × HS)} (hC : Cx E F 4 cX12_sayingsOf RX12 GT) (hO : Ro F rm_X12_sayingsOf) (hR : RI E F .int fo) (hf : fo ≠ none) (t : Nat) (ht1 : kd t = 12) (ht2 : AL E t) (x1 : Int32) : ∀ (n : Nat) (x2 : Int32) (x3 : Int32) (σ : HS), f_X12_sayingsOf_4 t x1 n x2 x3 σ = fo → G E F 4 [(0, .ref (E.2.2.1 t)), (1, .int x1), (2, .int x2), (3, .int x3)] [] σ := by
  intro n
  induction n with
  | zero =>
    intro x2 x3 σ h
    exact absurd (h.symm.trans rfl) hf
  | succ n ih =>
    intro x2 x3 σ h
    refine g_iload_n hC dX12_sayingsOf_4 rfl 3 rfl ?_
    refine g_aload_n hC dX12_sayingsOf_5 rfl 0 rfl ?_
    refine g_getR (cj := 14) (k := 13) hC cr12 ui_12 ht1 ht2 (by decide) fl_X12_79 rfl rfl dX12_sayingsOf_6 h hf (fun a1 ea1 ka1 na1 h => ?_)
    refine g_iconst (v := 0) hC dX12_sayingsOf_9 (by decide) ?_
    refine g_iald hC ka1 na1 dX12_sayingsOf_10 h hf (fun h => ?_)
    refine g_icmp_ge (tgt := 44) hC dX12_sayingsOf_11 (by decide) h (fun c11 h => ?_) (fun c11 h => ?_)
    · refine g_iload_n hC dX12_sayingsOf_44 rfl 2 rfl ?_
      exact g_iret hC hR dX12_sayingsOf_45 rfl h
    · refine g_iload_n hC dX12_sayingsOf_14 rfl 2 rfl ?_
      refine g_iload_n hC dX12_sayingsOf_15 rfl 1 rfl ?_
      refine g_aload_n hC dX12_sayingsOf_16 rfl 0 rfl ?_
      refine g_getR (cj := 14) (k := 14) hC cr12 ui_12 ht1 ht2 (by decide) fl_X12_82 rfl rfl dX12_sayingsOf_17 h hf (fun a2 ea2 ka2 na2 h => ?_)
      refine g_iload_n hC dX12_sayingsOf_20 rfl 3 rfl ?_
      refine g_iald hC ka2 na2 dX12_sayingsOf_21 h hf (fun h => ?_)
      refine g_ishr hC dX12_sayingsOf_22 ?_
      refine g_iconst (v := 1) hC dX12_sayingsOf_23 (by decide) ?_
      refine g_iand hC dX12_sayingsOf_24 ?_
      refine g_iconst (v := 1) hC dX12_sayingsOf_25 (by decide) ?_
      refine g_icmp_ne (tgt := 35) hC dX12_sayingsOf_26 (by decide) h (fun c26 h => ?_) (fun c26 h => ?_)
      · refine g_iconst (v := 0) hC dX12_sayingsOf_35 (by decide) ?_
        exact g_sub [0, 1, 3] rfl (k_X12_sayingsOf_36 hC hO hR hf t ht1 ht2 x1 x3 0 x2 (f_X12_sayingsOf_4 t x1 n) ih σ h)
      · refine g_iconst (v := 1) hC dX12_sayingsOf_29 (by decide) ?_
        refine g_iload_n hC dX12_sayingsOf_30 rfl 3 rfl ?_
        refine g_ishl hC dX12_sayingsOf_31 ?_
        refine g_goto (tgt := 36) hC dX12_sayingsOf_32 (by decide) ?_
        exact g_sub [0, 1, 3] rfl (k_X12_sayingsOf_36 hC hO hR hf t ht1 ht2 x1 x3 ((1 : Int32) <<< (x3 &&& 31)) x2 (f_X12_sayingsOf_4 t x1 n) ih σ h)
set_option maxHeartbeats 4000000 in
set_option maxRecDepth 100000 in
theorem k_X12_sayingsOf_0 {E : ET} {F : FT} {fo : Option (Int32 × HS)} (hC : Cx E F 4 cX12_sayingsOf RX12 GT) (hO : Ro F rm_X12_sayingsOf) (hR : RI E F .int fo) (hf : fo ≠ none) (t : Nat) (ht1 : kd t = 12) (ht2 : AL E t) (x1 : Int32) (σ : HS) (h : f_X12_sayingsOf t x1 σ = fo) : G E F 0 [(0, .ref (E.2.2.1 t)), (1, .int x1)] [] σ := by
    refine g_iconst (v := 0) hC dX12_sayingsOf_0 (by decide) ?_
    refine g_istore_n (lv' := [(2, .int 0), (0, .ref (E.2.2.1 t)), (1, .int x1)]) hC dX12_sayingsOf_1 rfl (by decide) rfl ?_
    refine g_iconst (v := 0) hC dX12_sayingsOf_2 (by decide) ?_
    refine g_istore_n (lv' := [(3, .int 0), (2, .int 0), (0, .ref (E.2.2.1 t)), (1, .int x1)]) hC dX12_sayingsOf_3 rfl (by decide) rfl ?_
    exact g_sub [2, 3, 1, 0] rfl (k_X12_sayingsOf_4 hC hO hR hf t ht1 ht2 x1 FU 0 0 σ h)
theorem xk_X12_sayingsOf (R : Room) (h1 : 0 + 1 ≤ R.frames) (h2 : 35 ≤ R.locals) : xw R yX12_sayingsOf w_X12_sayingsOf GT cX12_sayingsOf 4 (some .int) rm_X12_sayingsOf 1 := ⟨rfl, rfl, rfl, h1, h2, ⟨by decide, by decide⟩, by decide +kernel⟩
theorem c_X12_sayingsOf (E : ET) (hE : EO E) (t : Nat) (ht1 : kd t = 12) (ht2 : AL E t) (x1 : Int32) (σ : HS) (hn : f_X12_sayingsOf t x1 σ ≠ none) : CoI E yX12_sayingsOf w_X12_sayingsOf rm_X12_sayingsOf [.ref (E.2.2.1 t), .int x1] σ (f_X12_sayingsOf t x1 σ) := CoI.of (lv := [(0, .ref (E.2.2.1 t)), (1, .int x1)]) hE (plainFor_of_name (by decide)) rfl (Nat.le_of_ble_eq_true rfl) rfl (fun F hC hO hR => k_X12_sayingsOf_0 hC hO hR hn t ht1 ht2 x1 σ rfl)
def rm_X12_agree : Room := { frames := 6, cells := 0, slots := 0, locals := 207 }
theorem wc_X12_sayingsOf : Cond.code yX12_sayingsOf cX12_sayingsOf 4 (some .int) ∈ GT := gtr_54 _ (List.mem_of_getElem? (i := 14) rfl)
theorem gc_X12_438 : GoodIn GT (wsV RX12 438 RX12 yX12_sayingsOf w_X12_sayingsOf) := gi_V (gtr_54 _ (List.mem_of_getElem? (i := 11) rfl)) (gtr_54 _ (List.mem_of_getElem? (i := 12) rfl)) (gtr_54 _ (List.mem_of_getElem? (i := 13) rfl)) (gtr_1 _ (List.mem_of_getElem? (i := 5) rfl)) wc_X12_sayingsOf
set_option maxHeartbeats 4000000 in
set_option maxRecDepth 100000 in
theorem k_X12_agree_84 {E : ET} {F : FT} {fo : Option (Int32 × HS)} (hC : Cx E F 4 cX12_agree RX12 GT) (hO : Ro F rm_X12_agree) (hR : RI E F .int fo) (hf : fo ≠ none) (s0 : Int32) (σ : HS) (h : f_X12_agree_84 s0 σ = fo) : G E F 84 [] [.int s0] σ := by
    exact g_iret hC hR dX12_agree_84 rfl h
set_option maxHeartbeats 4000000 in
set_option maxRecDepth 100000 in
theorem k_X12_agree_66 {E : ET} {F : FT} {fo : Option (Int32 × HS)} (hC : Cx E F 4 cX12_agree RX12 GT) (hO : Ro F rm_X12_agree) (hR : RI E F .int fo) (hf : fo ≠ none) (t : Nat) (ht1 : kd t = 12) (ht2 : AL E t) (x1 : Int32) (x2 : Int32) (x3 : Int32) (r20 : Int32 → Int32 → HS → Option (Int32 × HS)) (h20 : ∀ (x2 : Int32) (x3 : Int32) (σ : HS), r20 x2 x3 σ = fo → G E F 20 [(0, .ref (E.2.2.1 t)), (1, .int x1), (2, .int x2), (3, .int x3)] [] σ) (σ : HS) (h : f_X12_agree_66 r20 t x1 x2 x3 σ = fo) : G E F 66 [(0, .ref (E.2.2.1 t)), (1, .int x1), (2, .int x2), (3, .int x3)] [] σ := by
    refine g_iinc (v := x3 + 1) (lv' := [(3, .int (x3 + 1)), (0, .ref (E.2.2.1 t)), (1, .int x1), (2, .int x2)]) hC dX12_agree_66 3 rfl rfl (by decide) rfl ?_
    refine g_goto (tgt := 20) hC dX12_agree_69 (by decide) ?_
    exact g_sub [1, 2, 3, 0] rfl (h20 x2 (x3 + 1) σ h)
set_option maxHeartbeats 4000000 in
set_option maxRecDepth 100000 in
theorem k_X12_agree_65 {E : ET} {F : FT} {fo : Option (Int32 × HS)} (hC : Cx E F 4 cX12_agree RX12 GT) (hO : Ro F rm_X12_agree) (hR : RI E F .int fo) (hf : fo ≠ none) (t : Nat) (ht1 : kd t = 12) (ht2 : AL E t) (x1 : Int32) (x3 : Int32) (s0 : Int32) (r20 : Int32 → Int32 → HS → Option (Int32 × HS)) (h20 : ∀ (x2 : Int32) (x3 : Int32) (σ : HS), r20 x2 x3 σ = fo → G E F 20 [(0, .ref (E.2.2.1 t)), (1, .int x1), (2, .int x2), (3, .int x3)] [] σ) (σ : HS) (h : f_X12_agree_65 r20 t x1 x3 s0 σ = fo) : G E F 65 [(0, .ref (E.2.2.1 t)), (1, .int x1), (3, .int x3)] [.int s0] σ := by
    refine g_istore_n (lv' := [(2, .int s0), (0, .ref (E.2.2.1 t)), (1, .int x1), (3, .int x3)]) hC dX12_agree_65 rfl (by decide) rfl ?_
    exact g_sub [1, 2, 0, 3] rfl (k_X12_agree_66 hC hO hR hf t ht1 ht2 x1 s0 x3 r20 h20 σ h)
set_option maxHeartbeats 4000000 in
set_option maxRecDepth 100000 in
theorem k_X12_agree_20 {E : ET} {F : FT} {fo : Option (Int32 × HS)} (hC : Cx E F 4 cX12_agree RX12 GT) (hO : Ro F rm_X12_agree) (hR : RI E F .int fo) (hf : fo ≠ none) (t : Nat) (ht1 : kd t = 12) (ht2 : AL E t) (x1 : Int32) : ∀ (n : Nat) (x2 : Int32) (x3 : Int32) (σ : HS), f_X12_agree_20 t x1 n x2 x3 σ = fo → G E F 20 [(0, .ref (E.2.2.1 t)), (1, .int x1), (2, .int x2), (3, .int x3)] [] σ := by
  intro n
  induction n with
  | zero =>
    intro x2 x3 σ h
    exact absurd (h.symm.trans rfl) hf
  | succ n ih =>
    intro x2 x3 σ h
    refine g_iload_n hC dX12_agree_20 rfl 3 rfl ?_
    refine g_sipush (v := 256) hC dX12_agree_21 (by decide) ?_
    refine g_icmp_ge (tgt := 72) hC dX12_agree_24 (by decide) h (fun c24 h => ?_) (fun c24 h => ?_)
    · refine g_iload_n hC dX12_agree_72 rfl 1 rfl ?_
      refine g_if_ne (tgt := 83) hC dX12_agree_73 (by decide) h (fun c73 h => ?_) (fun c73 h => ?_)
      · refine g_iload_n hC dX12_agree_83 rfl 2 rfl ?_
        exact g_sub [] rfl (k_X12_agree_84 hC hO hR hf x2 σ h)
      · refine g_iload_n hC dX12_agree_76 rfl 2 rfl ?_
        obtain ⟨q1, hq1, h⟩ := bd_of h hf
        refine g_cSI (As := [.int x2]) hC hO (c_X12_bits _ hC.2.2.2.2.2.2.1 x2 σ (nn_of hq1)) gc_X12_411 (xk_X12_bits _ (Nat.le_of_ble_eq_true rfl) (Nat.le_of_ble_eq_true rfl)) rfl (Nat.le_of_ble_eq_true rfl) dX12_agree_77 hq1 ?_
        refine g_goto (tgt := 84) hC dX12_agree_80 (by decide) ?_
        exact g_sub [] rfl (k_X12_agree_84 hC hO hR hf q1.1 q1.2 h)
    · refine g_iload_n hC dX12_agree_27 rfl 3 rfl ?_
      obtain ⟨q2, hq2, h⟩ := bd_of h hf
      refine g_cSI (As := [.int x3]) hC hO (c_X12_bits _ hC.2.2.2.2.2.2.1 x3 σ (nn_of hq2)) gc_X12_411 (xk_X12_bits _ (Nat.le_of_ble_eq_true rfl) (Nat.le_of_ble_eq_true rfl)) rfl (Nat.le_of_ble_eq_true rfl) dX12_agree_28 hq2 ?_
      refine g_iload_n hC dX12_agree_31 rfl 2 rfl ?_
      obtain ⟨q3, hq3, h⟩ := bd_of h hf
      refine g_cSI (As := [.int x2]) hC hO (c_X12_bits _ hC.2.2.2.2.2.2.1 x2 q2.2 (nn_of hq3)) gc_X12_411 (xk_X12_bits _ (Nat.le_of_ble_eq_true rfl) (Nat.le_of_ble_eq_true rfl)) rfl (Nat.le_of_ble_eq_true rfl) dX12_agree_32 hq3 ?_
      refine g_icmp_le (tgt := 66) hC dX12_agree_35 (by decide) h (fun c35 h => ?_) (fun c35 h => ?_)
      · exact g_sub [0, 1, 2, 3] rfl (k_X12_agree_66 hC hO hR hf t ht1 ht2 x1 x2 x3 (f_X12_agree_20 t x1 n) ih q3.2 h)
      · refine g_aload_n hC dX12_agree_38 rfl 0 rfl ?_
        refine g_aload_n hC dX12_agree_39 rfl 0 rfl ?_
        refine g_iload_n hC dX12_agree_40 rfl 3 rfl ?_
        obtain ⟨q4, hq4, h⟩ := bd_of h hf
        refine g_cVI (As := [.int x3]) hC hO (c_X12_sayingsOf _ hC.2.2.2.2.2.2.1 t ht1 ht2 x3 q3.2 (nn_of hq4)) gc_X12_438 (xk_X12_sayingsOf _ (Nat.le_of_ble_eq_true rfl) (Nat.le_of_ble_eq_true rfl)) cr12 ht1 ht2 rfl (Nat.le_of_ble_eq_true rfl) dX12_agree_41 hq4 ?_
        obtain ⟨q5, hq5, h⟩ := bd_of h hf
        refine g_cVV (As := [.int q4.1]) hC hO (c_X12_laysRows _ hC.2.2.2.2.2.2.1 t ht1 ht2 q4.1 q4.2 (nn_of hq5)) gc_X12_298 (xk_X12_laysRows _ (Nat.le_of_ble_eq_true rfl) (Nat.le_of_ble_eq_true rfl)) cr12 ht1 ht2 rfl (Nat.le_of_ble_eq_true rfl) dX12_agree_44 hq5 ?_
        refine g_aload_n hC dX12_agree_47 rfl 0 rfl ?_
        obtain ⟨q6, hq6, h⟩ := bd_of h hf
        refine g_cVV (As := []) hC hO (c_X12_findCorners _ hC.2.2.2.2.2.2.1 t ht1 ht2 q5 (nn_of hq6)) gc_X12_301 (xk_X12_findCorners _ (Nat.le_of_ble_eq_true rfl) (Nat.le_of_ble_eq_true rfl)) cr12 ht1 ht2 rfl (Nat.le_of_ble_eq_true rfl) dX12_agree_48 hq6 ?_
        refine g_aload_n hC dX12_agree_51 rfl 0 rfl ?_
        refine g_getR (cj := 14) (k := 28) hC cr12 ui_12 ht1 ht2 (by decide) fl_X12_112 rfl rfl dX12_agree_52 h hf (fun a7 ea7 ka7 na7 h => ?_)
        refine g_iconst (v := 0) hC dX12_agree_55 (by decide) ?_
        refine g_iald hC ka7 na7 dX12_agree_56 h hf (fun h => ?_)
        refine g_if_le (tgt := 64) hC dX12_agree_57 (by decide) h (fun c57 h => ?_) (fun c57 h => ?_)
        · refine g_iload_n hC dX12_agree_64 rfl 2 rfl ?_
          exact g_sub [0, 1, 3] rfl (k_X12_agree_65 hC hO hR hf t ht1 ht2 x1 x3 x2 (f_X12_agree_20 t x1 n) ih q6 h)
        · refine g_iload_n hC dX12_agree_60 rfl 3 rfl ?_
          refine g_goto (tgt := 65) hC dX12_agree_61 (by decide) ?_
          exact g_sub [0, 1, 3] rfl (k_X12_agree_65 hC hO hR hf t ht1 ht2 x1 x3 x3 (f_X12_agree_20 t x1 n) ih q6 h)
set_option maxHeartbeats 4000000 in
set_option maxRecDepth 100000 in
theorem k_X12_agree_0 {E : ET} {F : FT} {fo : Option (Int32 × HS)} (hC : Cx E F 4 cX12_agree RX12 GT) (hO : Ro F rm_X12_agree) (hR : RI E F .int fo) (hf : fo ≠ none) (t : Nat) (ht1 : kd t = 12) (ht2 : AL E t) (x1 : Int32) (σ : HS) (h : f_X12_agree t x1 σ = fo) : G E F 0 [(0, .ref (E.2.2.1 t)), (1, .int x1)] [] σ := by
    refine g_aload_n hC dX12_agree_0 rfl 0 rfl ?_
    refine g_iconst (v := 0) hC dX12_agree_1 (by decide) ?_
    refine g_putI (k := 0) hC cr12 ui_12 tyX12_ok nmX12 ht1 ht2 (by decide) fl_X12_1 rfl rfl rfl rfl dX12_agree_2 ?_
    refine g_iload_n hC dX12_agree_5 rfl 1 rfl ?_
    refine g_iconst (v := 0) hC dX12_agree_6 (by decide) ?_
    refine g_iconst (v := 1) hC dX12_agree_7 (by decide) ?_
    obtain ⟨q1, hq1, h⟩ := bd_of h hf
    refine g_cSI (As := [.int x1, .int 0, .int 1]) hC hO (c_X12_within _ hC.2.2.2.2.2.2.1 x1 0 1 (sI σ t 0 0) (nn_of hq1)) gc_X12_213 (xk_X12_within _ (Nat.le_of_ble_eq_true rfl) (Nat.le_of_ble_eq_true rfl)) rfl (Nat.le_of_ble_eq_true rfl) dX12_agree_8 hq1 ?_
    refine g_if_ne (tgt := 16) hC dX12_agree_11 (by decide) h (fun c11 h => ?_) (fun c11 h => ?_)
    · refine g_iconst (v := 0) hC dX12_agree_16 (by decide) ?_
      refine g_istore_n (lv' := [(2, .int 0), (0, .ref (E.2.2.1 t)), (1, .int x1)]) hC dX12_agree_17 rfl (by decide) rfl ?_
      refine g_iconst (v := 0) hC dX12_agree_18 (by decide) ?_
      refine g_istore_n (lv' := [(3, .int 0), (2, .int 0), (0, .ref (E.2.2.1 t)), (1, .int x1)]) hC dX12_agree_19 rfl (by decide) rfl ?_
      exact g_sub [2, 3, 1, 0] rfl (k_X12_agree_20 hC hO hR hf t ht1 ht2 x1 FU 0 0 q1.2 h)
    · refine g_iconst (v := (-1)) hC dX12_agree_14 (by decide) ?_
      exact g_iret hC hR dX12_agree_15 rfl h
theorem xk_X12_agree (R : Room) (h1 : 6 + 1 ≤ R.frames) (h2 : 242 ≤ R.locals) : xw R yX12_agree w_X12_agree GT cX12_agree 4 (some .int) rm_X12_agree 1 := ⟨rfl, rfl, rfl, h1, h2, ⟨by decide, by decide⟩, by decide +kernel⟩
theorem c_X12_agree (E : ET) (hE : EO E) (t : Nat) (ht1 : kd t = 12) (ht2 : AL E t) (x1 : Int32) (σ : HS) (hn : f_X12_agree t x1 σ ≠ none) : CoI E yX12_agree w_X12_agree rm_X12_agree [.ref (E.2.2.1 t), .int x1] σ (f_X12_agree t x1 σ) := CoI.of (lv := [(0, .ref (E.2.2.1 t)), (1, .int x1)]) hE (plainFor_of_name (by decide)) rfl (Nat.le_of_ble_eq_true rfl) rfl (fun F hC hO hR => k_X12_agree_0 hC hO hR hn t ht1 ht2 x1 σ rfl)
def rm_X12_yields : Room := { frames := 8, cells := 0, slots := 0, locals := 285 }
set_option maxHeartbeats 4000000 in
set_option maxRecDepth 100000 in
theorem k_X12_yields_122 {E : ET} {F : FT} {fo : Option (Int32 × HS)} (hC : Cx E F 4 cX12_yields RX12 GT) (hO : Ro F rm_X12_yields) (hR : RI E F .int fo) (hf : fo ≠ none) (s0 : Int32) (σ : HS) (h : f_X12_yields_122 s0 σ = fo) : G E F 122 [] [.int s0] σ := by
    exact g_iret hC hR dX12_yields_122 rfl h
set_option maxHeartbeats 4000000 in
set_option maxRecDepth 100000 in
theorem k_X12_yields_96 {E : ET} {F : FT} {fo : Option (Int32 × HS)} (hC : Cx E F 4 cX12_yields RX12 GT) (hO : Ro F rm_X12_yields) (hR : RI E F .int fo) (hf : fo ≠ none) (t : Nat) (ht1 : kd t = 12) (ht2 : AL E t) (x1 : Int32) (x2 : Int32) (x3 : Int32) (r20 : Int32 → Int32 → HS → Option (Int32 × HS)) (h20 : ∀ (x2 : Int32) (x3 : Int32) (σ : HS), r20 x2 x3 σ = fo → G E F 20 [(0, .ref (E.2.2.1 t)), (1, .int x1), (2, .int x2), (3, .int x3)] [] σ) (σ : HS) (h : f_X12_yields_96 r20 t x1 x2 x3 σ = fo) : G E F 96 [(0, .ref (E.2.2.1 t)), (1, .int x1), (2, .int x2), (3, .int x3)] [] σ := by
    refine g_iinc (v := x3 + 1) (lv' := [(3, .int (x3 + 1)), (0, .ref (E.2.2.1 t)), (1, .int x1), (2, .int x2)]) hC dX12_yields_96 3 rfl rfl (by decide) rfl ?_
    refine g_goto (tgt := 20) hC dX12_yields_99 (by decide) ?_
    exact g_sub [1, 2, 3, 0] rfl (h20 x2 (x3 + 1) σ h)
set_option maxHeartbeats 4000000 in
set_option maxRecDepth 100000 in
theorem k_X12_yields_95 {E : ET} {F : FT} {fo : Option (Int32 × HS)} (hC : Cx E F 4 cX12_yields RX12 GT) (hO : Ro F rm_X12_yields) (hR : RI E F .int fo) (hf : fo ≠ none) (t : Nat) (ht1 : kd t = 12) (ht2 : AL E t) (x1 : Int32) (x3 : Int32) (s0 : Int32) (r20 : Int32 → Int32 → HS → Option (Int32 × HS)) (h20 : ∀ (x2 : Int32) (x3 : Int32) (σ : HS), r20 x2 x3 σ = fo → G E F 20 [(0, .ref (E.2.2.1 t)), (1, .int x1), (2, .int x2), (3, .int x3)] [] σ) (σ : HS) (h : f_X12_yields_95 r20 t x1 x3 s0 σ = fo) : G E F 95 [(0, .ref (E.2.2.1 t)), (1, .int x1), (3, .int x3)] [.int s0] σ := by
    refine g_istore_n (lv' := [(2, .int s0), (0, .ref (E.2.2.1 t)), (1, .int x1), (3, .int x3)]) hC dX12_yields_95 rfl (by decide) rfl ?_
    exact g_sub [1, 2, 0, 3] rfl (k_X12_yields_96 hC hO hR hf t ht1 ht2 x1 s0 x3 r20 h20 σ h)
set_option maxHeartbeats 4000000 in
set_option maxRecDepth 100000 in
theorem k_X12_yields_94 {E : ET} {F : FT} {fo : Option (Int32 × HS)} (hC : Cx E F 4 cX12_yields RX12 GT) (hO : Ro F rm_X12_yields) (hR : RI E F .int fo) (hf : fo ≠ none) (t : Nat) (ht1 : kd t = 12) (ht2 : AL E t) (x1 : Int32) (x2 : Int32) (x3 : Int32) (r20 : Int32 → Int32 → HS → Option (Int32 × HS)) (h20 : ∀ (x2 : Int32) (x3 : Int32) (σ : HS), r20 x2 x3 σ = fo → G E F 20 [(0, .ref (E.2.2.1 t)), (1, .int x1), (2, .int x2), (3, .int x3)] [] σ) (σ : HS) (h : f_X12_yields_94 r20 t x1 x2 x3 σ = fo) : G E F 94 [(0, .ref (E.2.2.1 t)), (1, .int x1), (2, .int x2), (3, .int x3)] [] σ := by
    refine g_iload_n hC dX12_yields_94 rfl 2 rfl ?_
    exact g_sub [0, 1, 3] rfl (k_X12_yields_95 hC hO hR hf t ht1 ht2 x1 x3 x2 r20 h20 σ h)
set_option maxHeartbeats 4000000 in
set_option maxRecDepth 100000 in
theorem k_X12_yields_53 {E : ET} {F : FT} {fo : Option (Int32 × HS)} (hC : Cx E F 4 cX12_yields RX12 GT) (hO : Ro F rm_X12_yields) (hR : RI E F .int fo) (hf : fo ≠ none) (t : Nat) (ht1 : kd t = 12) (ht2 : AL E t) (x1 : Int32) (x2 : Int32) (x3 : Int32) (r20 : Int32 → Int32 → HS → Option (Int32 × HS)) (h20 : ∀ (x2 : Int32) (x3 : Int32) (σ : HS), r20 x2 x3 σ = fo → G E F 20 [(0, .ref (E.2.2.1 t)), (1, .int x1), (2, .int x2), (3, .int x3)] [] σ) (σ : HS) (h : f_X12_yields_53 r20 t x1 x2 x3 σ = fo) : G E F 53 [(0, .ref (E.2.2.1 t)), (1, .int x1), (2, .int x2), (3, .int x3)] [] σ := by
    refine g_aload_n hC dX12_yields_53 rfl 0 rfl ?_
    refine g_aload_n hC dX12_yields_54 rfl 0 rfl ?_
    refine g_aload_n hC dX12_yields_55 rfl 0 rfl ?_
    refine g_getI (k := 23) hC cr12 ui_12 ht1 ht2 (by decide) fl_X12_207 rfl rfl dX12_yields_56 ?_
    refine g_iload_n hC dX12_yields_59 rfl 3 rfl ?_
    refine g_iconst (v := (-1)) hC dX12_yields_60 (by decide) ?_
    refine g_ixor hC dX12_yields_61 ?_
    refine g_iand hC dX12_yields_62 ?_
    obtain ⟨q1, hq1, h⟩ := bd_of h hf
    refine g_cVI (As := [.int ((σ.1 t 23) &&& (x3 ^^^ (-1)))]) hC hO (c_X12_sayingsOf _ hC.2.2.2.2.2.2.1 t ht1 ht2 ((σ.1 t 23) &&& (x3 ^^^ (-1))) σ (nn_of hq1)) gc_X12_438 (xk_X12_sayingsOf _ (Nat.le_of_ble_eq_true rfl) (Nat.le_of_ble_eq_true rfl)) cr12 ht1 ht2 rfl (Nat.le_of_ble_eq_true rfl) dX12_yields_63 hq1 ?_
    obtain ⟨q2, hq2, h⟩ := bd_of h hf
    refine g_cVV (As := [.int q1.1]) hC hO (c_X12_laysRows _ hC.2.2.2.2.2.2.1 t ht1 ht2 q1.1 q1.2 (nn_of hq2)) gc_X12_298 (xk_X12_laysRows _ (Nat.le_of_ble_eq_true rfl) (Nat.le_of_ble_eq_true rfl)) cr12 ht1 ht2 rfl (Nat.le_of_ble_eq_true rfl) dX12_yields_66 hq2 ?_
    refine g_aload_n hC dX12_yields_69 rfl 0 rfl ?_
    obtain ⟨q3, hq3, h⟩ := bd_of h hf
    refine g_cVV (As := []) hC hO (c_X12_findCorners _ hC.2.2.2.2.2.2.1 t ht1 ht2 q2 (nn_of hq3)) gc_X12_301 (xk_X12_findCorners _ (Nat.le_of_ble_eq_true rfl) (Nat.le_of_ble_eq_true rfl)) cr12 ht1 ht2 rfl (Nat.le_of_ble_eq_true rfl) dX12_yields_70 hq3 ?_
    refine g_aload_n hC dX12_yields_73 rfl 0 rfl ?_
    refine g_getR (cj := 14) (k := 28) hC cr12 ui_12 ht1 ht2 (by decide) fl_X12_112 rfl rfl dX12_yields_74 h hf (fun a4 ea4 ka4 na4 h => ?_)
    refine g_iconst (v := 0) hC dX12_yields_77 (by decide) ?_
    refine g_iald hC ka4 na4 dX12_yields_78 h hf (fun h => ?_)
    refine g_if_le (tgt := 94) hC dX12_yields_79 (by decide) h (fun c79 h => ?_) (fun c79 h => ?_)
    · exact g_sub [0, 1, 2, 3] rfl (k_X12_yields_94 hC hO hR hf t ht1 ht2 x1 x2 x3 r20 h20 q3 h)
    · refine g_aload_n hC dX12_yields_82 rfl 0 rfl ?_
      refine g_iconst (v := 0) hC dX12_yields_83 (by decide) ?_
      obtain ⟨q5, hq5, h⟩ := bd_of h hf
      refine g_cVI (As := [.int 0]) hC hO (c_X12_sureBest _ hC.2.2.2.2.2.2.1 t ht1 ht2 0 q3 (nn_of hq5)) gc_X12_408 (xk_X12_sureBest _ (Nat.le_of_ble_eq_true rfl) (Nat.le_of_ble_eq_true rfl)) cr12 ht1 ht2 rfl (Nat.le_of_ble_eq_true rfl) dX12_yields_84 hq5 ?_
      refine g_if_eq (tgt := 94) hC dX12_yields_87 (by decide) h (fun c87 h => ?_) (fun c87 h => ?_)
      · exact g_sub [0, 1, 2, 3] rfl (k_X12_yields_94 hC hO hR hf t ht1 ht2 x1 x2 x3 r20 h20 q5.2 h)
      · refine g_iload_n hC dX12_yields_90 rfl 3 rfl ?_
        refine g_goto (tgt := 95) hC dX12_yields_91 (by decide) ?_
        exact g_sub [0, 1, 3] rfl (k_X12_yields_95 hC hO hR hf t ht1 ht2 x1 x3 x3 r20 h20 q5.2 h)
set_option maxHeartbeats 4000000 in
set_option maxRecDepth 100000 in
theorem k_X12_yields_20 {E : ET} {F : FT} {fo : Option (Int32 × HS)} (hC : Cx E F 4 cX12_yields RX12 GT) (hO : Ro F rm_X12_yields) (hR : RI E F .int fo) (hf : fo ≠ none) (t : Nat) (ht1 : kd t = 12) (ht2 : AL E t) (x1 : Int32) : ∀ (n : Nat) (x2 : Int32) (x3 : Int32) (σ : HS), f_X12_yields_20 t x1 n x2 x3 σ = fo → G E F 20 [(0, .ref (E.2.2.1 t)), (1, .int x1), (2, .int x2), (3, .int x3)] [] σ := by
  intro n
  induction n with
  | zero =>
    intro x2 x3 σ h
    exact absurd (h.symm.trans rfl) hf
  | succ n ih =>
    intro x2 x3 σ h
    refine g_iload_n hC dX12_yields_20 rfl 3 rfl ?_
    refine g_sipush (v := 256) hC dX12_yields_21 (by decide) ?_
    refine g_icmp_ge (tgt := 102) hC dX12_yields_24 (by decide) h (fun c24 h => ?_) (fun c24 h => ?_)
    · refine g_iload_n hC dX12_yields_102 rfl 2 rfl ?_
      refine g_if_ge (tgt := 110) hC dX12_yields_103 (by decide) h (fun c103 h => ?_) (fun c103 h => ?_)
      · refine g_iload_n hC dX12_yields_110 rfl 1 rfl ?_
        refine g_if_ne (tgt := 121) hC dX12_yields_111 (by decide) h (fun c111 h => ?_) (fun c111 h => ?_)
        · refine g_iload_n hC dX12_yields_121 rfl 2 rfl ?_
          exact g_sub [] rfl (k_X12_yields_122 hC hO hR hf x2 σ h)
        · refine g_iload_n hC dX12_yields_114 rfl 2 rfl ?_
          obtain ⟨q1, hq1, h⟩ := bd_of h hf
          refine g_cSI (As := [.int x2]) hC hO (c_X12_bits _ hC.2.2.2.2.2.2.1 x2 σ (nn_of hq1)) gc_X12_411 (xk_X12_bits _ (Nat.le_of_ble_eq_true rfl) (Nat.le_of_ble_eq_true rfl)) rfl (Nat.le_of_ble_eq_true rfl) dX12_yields_115 hq1 ?_
          refine g_goto (tgt := 122) hC dX12_yields_118 (by decide) ?_
          exact g_sub [] rfl (k_X12_yields_122 hC hO hR hf q1.1 q1.2 h)
      · refine g_iconst (v := (-1)) hC dX12_yields_106 (by decide) ?_
        refine g_goto (tgt := 122) hC dX12_yields_107 (by decide) ?_
        exact g_sub [] rfl (k_X12_yields_122 hC hO hR hf (-1) σ h)
    · refine g_iload_n hC dX12_yields_27 rfl 3 rfl ?_
      refine g_aload_n hC dX12_yields_28 rfl 0 rfl ?_
      refine g_getI (k := 23) hC cr12 ui_12 ht1 ht2 (by decide) fl_X12_207 rfl rfl dX12_yields_29 ?_
      refine g_iconst (v := (-1)) hC dX12_yields_32 (by decide) ?_
      refine g_ixor hC dX12_yields_33 ?_
      refine g_iand hC dX12_yields_34 ?_
      refine g_if_ne (tgt := 96) hC dX12_yields_35 (by decide) h (fun c35 h => ?_) (fun c35 h => ?_)
      · exact g_sub [0, 1, 2, 3] rfl (k_X12_yields_96 hC hO hR hf t ht1 ht2 x1 x2 x3 (f_X12_yields_20 t x1 n) ih σ h)
      · refine g_iload_n hC dX12_yields_38 rfl 2 rfl ?_
        refine g_if_lt (tgt := 53) hC dX12_yields_39 (by decide) h (fun c39 h => ?_) (fun c39 h => ?_)
        · exact g_sub [0, 1, 2, 3] rfl (k_X12_yields_53 hC hO hR hf t ht1 ht2 x1 x2 x3 (f_X12_yields_20 t x1 n) ih σ h)
        · refine g_iload_n hC dX12_yields_42 rfl 3 rfl ?_
          obtain ⟨q2, hq2, h⟩ := bd_of h hf
          refine g_cSI (As := [.int x3]) hC hO (c_X12_bits _ hC.2.2.2.2.2.2.1 x3 σ (nn_of hq2)) gc_X12_411 (xk_X12_bits _ (Nat.le_of_ble_eq_true rfl) (Nat.le_of_ble_eq_true rfl)) rfl (Nat.le_of_ble_eq_true rfl) dX12_yields_43 hq2 ?_
          refine g_iload_n hC dX12_yields_46 rfl 2 rfl ?_
          obtain ⟨q3, hq3, h⟩ := bd_of h hf
          refine g_cSI (As := [.int x2]) hC hO (c_X12_bits _ hC.2.2.2.2.2.2.1 x2 q2.2 (nn_of hq3)) gc_X12_411 (xk_X12_bits _ (Nat.le_of_ble_eq_true rfl) (Nat.le_of_ble_eq_true rfl)) rfl (Nat.le_of_ble_eq_true rfl) dX12_yields_47 hq3 ?_
          refine g_icmp_ge (tgt := 96) hC dX12_yields_50 (by decide) h (fun c50 h => ?_) (fun c50 h => ?_)
          · exact g_sub [0, 1, 2, 3] rfl (k_X12_yields_96 hC hO hR hf t ht1 ht2 x1 x2 x3 (f_X12_yields_20 t x1 n) ih q3.2 h)
          · exact g_sub [0, 1, 2, 3] rfl (k_X12_yields_53 hC hO hR hf t ht1 ht2 x1 x2 x3 (f_X12_yields_20 t x1 n) ih q3.2 h)
set_option maxHeartbeats 4000000 in
set_option maxRecDepth 100000 in
theorem k_X12_yields_0 {E : ET} {F : FT} {fo : Option (Int32 × HS)} (hC : Cx E F 4 cX12_yields RX12 GT) (hO : Ro F rm_X12_yields) (hR : RI E F .int fo) (hf : fo ≠ none) (t : Nat) (ht1 : kd t = 12) (ht2 : AL E t) (x1 : Int32) (σ : HS) (h : f_X12_yields t x1 σ = fo) : G E F 0 [(0, .ref (E.2.2.1 t)), (1, .int x1)] [] σ := by
    refine g_aload_n hC dX12_yields_0 rfl 0 rfl ?_
    refine g_iconst (v := 0) hC dX12_yields_1 (by decide) ?_
    refine g_putI (k := 0) hC cr12 ui_12 tyX12_ok nmX12 ht1 ht2 (by decide) fl_X12_1 rfl rfl rfl rfl dX12_yields_2 ?_
    refine g_iload_n hC dX12_yields_5 rfl 1 rfl ?_
    refine g_iconst (v := 0) hC dX12_yields_6 (by decide) ?_
    refine g_iconst (v := 1) hC dX12_yields_7 (by decide) ?_
    obtain ⟨q1, hq1, h⟩ := bd_of h hf
    refine g_cSI (As := [.int x1, .int 0, .int 1]) hC hO (c_X12_within _ hC.2.2.2.2.2.2.1 x1 0 1 (sI σ t 0 0) (nn_of hq1)) gc_X12_213 (xk_X12_within _ (Nat.le_of_ble_eq_true rfl) (Nat.le_of_ble_eq_true rfl)) rfl (Nat.le_of_ble_eq_true rfl) dX12_yields_8 hq1 ?_
    refine g_if_ne (tgt := 16) hC dX12_yields_11 (by decide) h (fun c11 h => ?_) (fun c11 h => ?_)
    · refine g_iconst (v := (-1)) hC dX12_yields_16 (by decide) ?_
      refine g_istore_n (lv' := [(2, .int (-1)), (0, .ref (E.2.2.1 t)), (1, .int x1)]) hC dX12_yields_17 rfl (by decide) rfl ?_
      refine g_iconst (v := 0) hC dX12_yields_18 (by decide) ?_
      refine g_istore_n (lv' := [(3, .int 0), (2, .int (-1)), (0, .ref (E.2.2.1 t)), (1, .int x1)]) hC dX12_yields_19 rfl (by decide) rfl ?_
      exact g_sub [2, 3, 1, 0] rfl (k_X12_yields_20 hC hO hR hf t ht1 ht2 x1 FU (-1) 0 q1.2 h)
    · refine g_iconst (v := (-1)) hC dX12_yields_14 (by decide) ?_
      exact g_iret hC hR dX12_yields_15 rfl h
theorem xk_X12_yields (R : Room) (h1 : 8 + 1 ≤ R.frames) (h2 : 320 ≤ R.locals) : xw R yX12_yields w_X12_yields GT cX12_yields 4 (some .int) rm_X12_yields 1 := ⟨rfl, rfl, rfl, h1, h2, ⟨by decide, by decide⟩, by decide +kernel⟩
theorem c_X12_yields (E : ET) (hE : EO E) (t : Nat) (ht1 : kd t = 12) (ht2 : AL E t) (x1 : Int32) (σ : HS) (hn : f_X12_yields t x1 σ ≠ none) : CoI E yX12_yields w_X12_yields rm_X12_yields [.ref (E.2.2.1 t), .int x1] σ (f_X12_yields t x1 σ) := CoI.of (lv := [(0, .ref (E.2.2.1 t)), (1, .int x1)]) hE (plainFor_of_name (by decide)) rfl (Nat.le_of_ble_eq_true rfl) rfl (fun F hC hO hR => k_X12_yields_0 hC hO hR hn t ht1 ht2 x1 σ rfl)
def rm_X12_row : Room := { frames := 1, cells := 0, slots := 0, locals := 34 }
theorem fl_X12_106 : Cond.fieldLink RX12 106 "EveryMeasureModel" (TX12 25).2.1 (TX12 25).2.2.1 ∈ GT := gtr_10 _ (List.mem_of_getElem? (i := 2) rfl)
set_option maxHeartbeats 4000000 in
set_option maxRecDepth 100000 in
theorem k_X12_row_85 {E : ET} {F : FT} {fo : Option (Int32 × HS)} (hC : Cx E F 4 cX12_row RX12 GT) (hO : Ro F rm_X12_row) (hR : RI E F .boolean fo) (hf : fo ≠ none) (x2 : Int32) (σ : HS) (h : f_X12_row_85 x2 σ = fo) : G E F 85 [(2, .int x2)] [] σ := by
    refine g_iload_n hC dX12_row_85 rfl 0 rfl ?_
    obtain ⟨hz, h⟩ := zr_of h hf
    exact g_iret hC hR dX12_row_86 hz h
set_option maxHeartbeats 4000000 in
set_option maxRecDepth 100000 in
theorem k_X12_row_54 {E : ET} {F : FT} {fo : Option (Int32 × HS)} (hC : Cx E F 4 cX12_row RX12 GT) (hO : Ro F rm_X12_row) (hR : RI E F .boolean fo) (hf : fo ≠ none) (t : Nat) (ht1 : kd t = 12) (ht2 : AL E t) (x1 : Int32) (x3 : Int32) (s0 : Int32) (r27 : Int32 → Int32 → HS → Option (Int32 × HS)) (h27 : ∀ (x2 : Int32) (x3 : Int32) (σ : HS), r27 x2 x3 σ = fo → G E F 27 [(0, .ref (E.2.2.1 t)), (1, .int x1), (2, .int x2), (3, .int x3)] [] σ) (σ : HS) (h : f_X12_row_54 r27 t x1 x3 s0 σ = fo) : G E F 54 [(0, .ref (E.2.2.1 t)), (1, .int x1), (3, .int x3)] [.int s0] σ := by
    refine g_istore_n (lv' := [(2, .int s0), (0, .ref (E.2.2.1 t)), (1, .int x1), (3, .int x3)]) hC dX12_row_54 rfl (by decide) rfl ?_
    refine g_iinc (v := x3 + 1) (lv' := [(3, .int (x3 + 1)), (2, .int s0), (0, .ref (E.2.2.1 t)), (1, .int x1)]) hC dX12_row_55 3 rfl rfl (by decide) rfl ?_
    refine g_goto (tgt := 27) hC dX12_row_58 (by decide) ?_
    exact g_sub [2, 3, 1, 0] rfl (h27 s0 (x3 + 1) σ h)
set_option maxHeartbeats 4000000 in
set_option maxRecDepth 100000 in
theorem k_X12_row_53 {E : ET} {F : FT} {fo : Option (Int32 × HS)} (hC : Cx E F 4 cX12_row RX12 GT) (hO : Ro F rm_X12_row) (hR : RI E F .boolean fo) (hf : fo ≠ none) (t : Nat) (ht1 : kd t = 12) (ht2 : AL E t) (x1 : Int32) (x3 : Int32) (r27 : Int32 → Int32 → HS → Option (Int32 × HS)) (h27 : ∀ (x2 : Int32) (x3 : Int32) (σ : HS), r27 x2 x3 σ = fo → G E F 27 [(0, .ref (E.2.2.1 t)), (1, .int x1), (2, .int x2), (3, .int x3)] [] σ) (σ : HS) (h : f_X12_row_53 r27 t x1 x3 σ = fo) : G E F 53 [(0, .ref (E.2.2.1 t)), (1, .int x1), (3, .int x3)] [] σ := by
    refine g_iconst (v := 0) hC dX12_row_53 (by decide) ?_
    exact g_sub [0, 1, 2] rfl (k_X12_row_54 hC hO hR hf t ht1 ht2 x1 x3 0 r27 h27 σ h)
set_option maxHeartbeats 4000000 in
set_option maxRecDepth 100000 in
theorem k_X12_row_27 {E : ET} {F : FT} {fo : Option (Int32 × HS)} (hC : Cx E F 4 cX12_row RX12 GT) (hO : Ro F rm_X12_row) (hR : RI E F .boolean fo) (hf : fo ≠ none) (t : Nat) (ht1 : kd t = 12) (ht2 : AL E t) (x1 : Int32) : ∀ (n : Nat) (x2 : Int32) (x3 : Int32) (σ : HS), f_X12_row_27 t x1 n x2 x3 σ = fo → G E F 27 [(0, .ref (E.2.2.1 t)), (1, .int x1), (2, .int x2), (3, .int x3)] [] σ := by
  intro n
  induction n with
  | zero =>
    intro x2 x3 σ h
    exact absurd (h.symm.trans rfl) hf
  | succ n ih =>
    intro x2 x3 σ h
    refine g_iload_n hC dX12_row_27 rfl 3 rfl ?_
    refine g_aload_n hC dX12_row_28 rfl 0 rfl ?_
    refine g_getI (k := 24) hC cr12 ui_12 ht1 ht2 (by decide) fl_X12_210 rfl rfl dX12_row_29 ?_
    refine g_icmp_ge (tgt := 61) hC dX12_row_32 (by decide) h (fun c32 h => ?_) (fun c32 h => ?_)
    · refine g_iload_n hC dX12_row_61 rfl 2 rfl ?_
      refine g_if_eq (tgt := 85) hC dX12_row_62 (by decide) h (fun c62 h => ?_) (fun c62 h => ?_)
      · exact g_sub [2] rfl (k_X12_row_85 hC hO hR hf x2 σ h)
      · refine g_aload_n hC dX12_row_65 rfl 0 rfl ?_
        refine g_getR (cj := 14) (k := 25) hC cr12 ui_12 ht1 ht2 (by decide) fl_X12_106 rfl rfl dX12_row_66 h hf (fun a1 ea1 ka1 na1 h => ?_)
        refine g_aload_n hC dX12_row_69 rfl 0 rfl ?_
        refine g_getI (k := 24) hC cr12 ui_12 ht1 ht2 (by decide) fl_X12_210 rfl rfl dX12_row_70 ?_
        refine g_iload_n hC dX12_row_73 rfl 1 rfl ?_
        refine g_iast hC ka1 na1 dX12_row_74 h hf (fun h => ?_)
        refine g_aload_n hC dX12_row_75 rfl 0 rfl ?_
        refine g_dup hC dX12_row_76 rfl ?_
        refine g_getI (k := 24) hC cr12 ui_12 ht1 ht2 (by decide) fl_X12_210 rfl rfl dX12_row_77 ?_
        refine g_iconst (v := 1) hC dX12_row_80 (by decide) ?_
        refine g_iadd hC dX12_row_81 ?_
        refine g_putI (k := 24) hC cr12 ui_12 tyX12_ok nmX12 ht1 ht2 (by decide) fl_X12_210 rfl rfl rfl rfl dX12_row_82 ?_
        exact g_sub [2] rfl (k_X12_row_85 hC hO hR hf x2 (sI (sI σ a1 (σ.1 t 24).toNatClampNeg x1) t 24 (((sI σ a1 (σ.1 t 24).toNatClampNeg x1).1 t 24) + 1)) h)
    · refine g_iload_n hC dX12_row_35 rfl 2 rfl ?_
      refine g_if_eq (tgt := 53) hC dX12_row_36 (by decide) h (fun c36 h => ?_) (fun c36 h => ?_)
      · exact g_sub [0, 1, 3] rfl (k_X12_row_53 hC hO hR hf t ht1 ht2 x1 x3 (f_X12_row_27 t x1 n) ih σ h)
      · refine g_aload_n hC dX12_row_39 rfl 0 rfl ?_
        refine g_getR (cj := 14) (k := 25) hC cr12 ui_12 ht1 ht2 (by decide) fl_X12_106 rfl rfl dX12_row_40 h hf (fun a2 ea2 ka2 na2 h => ?_)
        refine g_iload_n hC dX12_row_43 rfl 3 rfl ?_
        refine g_iald hC ka2 na2 dX12_row_44 h hf (fun h => ?_)
        refine g_iload_n hC dX12_row_45 rfl 1 rfl ?_
        refine g_icmp_eq (tgt := 53) hC dX12_row_46 (by decide) h (fun c46 h => ?_) (fun c46 h => ?_)
        · exact g_sub [0, 1, 3] rfl (k_X12_row_53 hC hO hR hf t ht1 ht2 x1 x3 (f_X12_row_27 t x1 n) ih σ h)
        · refine g_iconst (v := 1) hC dX12_row_49 (by decide) ?_
          refine g_goto (tgt := 54) hC dX12_row_50 (by decide) ?_
          exact g_sub [0, 1, 3] rfl (k_X12_row_54 hC hO hR hf t ht1 ht2 x1 x3 1 (f_X12_row_27 t x1 n) ih σ h)
set_option maxHeartbeats 4000000 in
set_option maxRecDepth 100000 in
theorem k_X12_row_0 {E : ET} {F : FT} {fo : Option (Int32 × HS)} (hC : Cx E F 4 cX12_row RX12 GT) (hO : Ro F rm_X12_row) (hR : RI E F .boolean fo) (hf : fo ≠ none) (t : Nat) (ht1 : kd t = 12) (ht2 : AL E t) (x1 : Int32) (σ : HS) (h : f_X12_row t x1 σ = fo) : G E F 0 [(0, .ref (E.2.2.1 t)), (1, .int x1)] [] σ := by
    refine g_aload_n hC dX12_row_0 rfl 0 rfl ?_
    refine g_iconst (v := 0) hC dX12_row_1 (by decide) ?_
    refine g_putI (k := 0) hC cr12 ui_12 tyX12_ok nmX12 ht1 ht2 (by decide) fl_X12_1 rfl rfl rfl rfl dX12_row_2 ?_
    refine g_iload_n hC dX12_row_5 rfl 1 rfl ?_
    refine g_iconst (v := (-1)) hC dX12_row_6 (by decide) ?_
    refine g_icmp_ne (tgt := 17) hC dX12_row_7 (by decide) h (fun c7 h => ?_) (fun c7 h => ?_)
    · refine g_iload_n hC dX12_row_17 rfl 1 rfl ?_
      refine g_iconst (v := 0) hC dX12_row_18 (by decide) ?_
      refine g_bipush (v := 7) hC dX12_row_19 (by decide) ?_
      obtain ⟨q1, hq1, h⟩ := bd_of h hf
      refine g_cSI (As := [.int x1, .int 0, .int 7]) hC hO (c_X12_within _ hC.2.2.2.2.2.2.1 x1 0 7 (sI σ t 0 0) (nn_of hq1)) gc_X12_213 (xk_X12_within _ (Nat.le_of_ble_eq_true rfl) (Nat.le_of_ble_eq_true rfl)) rfl (Nat.le_of_ble_eq_true rfl) dX12_row_21 hq1 ?_
      refine g_istore_n (lv' := [(2, .int q1.1), (0, .ref (E.2.2.1 t)), (1, .int x1)]) hC dX12_row_24 rfl (by decide) rfl ?_
      refine g_iconst (v := 0) hC dX12_row_25 (by decide) ?_
      refine g_istore_n (lv' := [(3, .int 0), (2, .int q1.1), (0, .ref (E.2.2.1 t)), (1, .int x1)]) hC dX12_row_26 rfl (by decide) rfl ?_
      exact g_sub [2, 3, 1, 0] rfl (k_X12_row_27 hC hO hR hf t ht1 ht2 x1 FU q1.1 0 q1.2 h)
    · refine g_aload_n hC dX12_row_10 rfl 0 rfl ?_
      refine g_iconst (v := 0) hC dX12_row_11 (by decide) ?_
      refine g_putI (k := 24) hC cr12 ui_12 tyX12_ok nmX12 ht1 ht2 (by decide) fl_X12_210 rfl rfl rfl rfl dX12_row_12 ?_
      refine g_iconst (v := 1) hC dX12_row_15 (by decide) ?_
      exact g_iret hC hR dX12_row_16 rfl h
theorem xk_X12_row (R : Room) (h1 : 1 + 1 ≤ R.frames) (h2 : 69 ≤ R.locals) : xw R yX12_row w_X12_row GT cX12_row 4 (some .boolean) rm_X12_row 1 := ⟨rfl, rfl, rfl, h1, h2, ⟨by decide, by decide⟩, by decide +kernel⟩
theorem c_X12_row (E : ET) (hE : EO E) (t : Nat) (ht1 : kd t = 12) (ht2 : AL E t) (x1 : Int32) (σ : HS) (hn : f_X12_row t x1 σ ≠ none) : CoI E yX12_row w_X12_row rm_X12_row [.ref (E.2.2.1 t), .int x1] σ (f_X12_row t x1 σ) := CoI.of (lv := [(0, .ref (E.2.2.1 t)), (1, .int x1)]) hE (plainFor_of_name (by decide)) rfl (Nat.le_of_ble_eq_true rfl) rfl (fun F hC hO hR => k_X12_row_0 hC hO hR hn t ht1 ht2 x1 σ rfl)
def rm_X12_judged : Room := { frames := 7, cells := 0, slots := 0, locals := 239 }
set_option maxHeartbeats 4000000 in
set_option maxRecDepth 100000 in
theorem k_X12_judged_21 {E : ET} {F : FT} {fo : Option (Int32 × HS)} (hC : Cx E F 3 cX12_judged RX12 GT) (hO : Ro F rm_X12_judged) (hR : RI E F .int fo) (hf : fo ≠ none) (σ : HS) (h : f_X12_judged_21 σ = fo) : G E F 21 [] [] σ := by
    refine g_iconst (v := (-1)) hC dX12_judged_21 (by decide) ?_
    exact g_iret hC hR dX12_judged_22 rfl h
set_option maxHeartbeats 4000000 in
set_option maxRecDepth 100000 in
theorem k_X12_judged_121 {E : ET} {F : FT} {fo : Option (Int32 × HS)} (hC : Cx E F 3 cX12_judged RX12 GT) (hO : Ro F rm_X12_judged) (hR : RI E F .int fo) (hf : fo ≠ none) (s0 : Int32) (σ : HS) (h : f_X12_judged_121 s0 σ = fo) : G E F 121 [] [.int s0] σ := by
    exact g_iret hC hR dX12_judged_121 rfl h
set_option maxHeartbeats 4000000 in
set_option maxRecDepth 100000 in
theorem k_X12_judged_105 {E : ET} {F : FT} {fo : Option (Int32 × HS)} (hC : Cx E F 3 cX12_judged RX12 GT) (hO : Ro F rm_X12_judged) (hR : RI E F .int fo) (hf : fo ≠ none) (s0 : Int32) (σ : HS) (h : f_X12_judged_105 s0 σ = fo) : G E F 105 [] [.int s0] σ := by
    exact g_iret hC hR dX12_judged_105 rfl h
set_option maxHeartbeats 4000000 in
set_option maxRecDepth 100000 in
theorem k_X12_judged_56 {E : ET} {F : FT} {fo : Option (Int32 × HS)} (hC : Cx E F 3 cX12_judged RX12 GT) (hO : Ro F rm_X12_judged) (hR : RI E F .int fo) (hf : fo ≠ none) (t : Nat) (ht1 : kd t = 12) (ht2 : AL E t) (x1 : Int32) : ∀ (n : Nat) (x2 : Int32) (σ : HS), f_X12_judged_56 t x1 n x2 σ = fo → G E F 56 [(0, .ref (E.2.2.1 t)), (1, .int x1), (2, .int x2)] [] σ := by
  intro n
  induction n with
  | zero =>
    intro x2 σ h
    exact absurd (h.symm.trans rfl) hf
  | succ n ih =>
    intro x2 σ h
    refine g_iload_n hC dX12_judged_56 rfl 2 rfl ?_
    refine g_aload_n hC dX12_judged_57 rfl 0 rfl ?_
    refine g_getI (k := 24) hC cr12 ui_12 ht1 ht2 (by decide) fl_X12_210 rfl rfl dX12_judged_58 ?_
    refine g_icmp_ge (tgt := 112) hC dX12_judged_61 (by decide) h (fun c61 h => ?_) (fun c61 h => ?_)
    · refine g_iload_n hC dX12_judged_112 rfl 1 rfl ?_
      refine g_if_ne (tgt := 120) hC dX12_judged_113 (by decide) h (fun c113 h => ?_) (fun c113 h => ?_)
      · refine g_iconst (v := (-1)) hC dX12_judged_120 (by decide) ?_
        exact g_sub [] rfl (k_X12_judged_121 hC hO hR hf (-1) σ h)
      · refine g_iconst (v := 1) hC dX12_judged_116 (by decide) ?_
        refine g_goto (tgt := 121) hC dX12_judged_117 (by decide) ?_
        exact g_sub [] rfl (k_X12_judged_121 hC hO hR hf 1 σ h)
    · refine g_aload_n hC dX12_judged_64 rfl 0 rfl ?_
      refine g_aload_n hC dX12_judged_65 rfl 0 rfl ?_
      refine g_getR (cj := 14) (k := 25) hC cr12 ui_12 ht1 ht2 (by decide) fl_X12_106 rfl rfl dX12_judged_66 h hf (fun a1 ea1 ka1 na1 h => ?_)
      refine g_iload_n hC dX12_judged_69 rfl 2 rfl ?_
      refine g_iconst (v := 1) hC dX12_judged_70 (by decide) ?_
      refine g_isub hC dX12_judged_71 ?_
      refine g_iald hC ka1 na1 dX12_judged_72 h hf (fun h => ?_)
      refine g_aload_n hC dX12_judged_73 rfl 0 rfl ?_
      refine g_getR (cj := 14) (k := 25) hC cr12 ui_12 ht1 ht2 (by decide) fl_X12_106 rfl rfl dX12_judged_74 h hf (fun a2 ea2 ka2 na2 h => ?_)
      refine g_iload_n hC dX12_judged_77 rfl 2 rfl ?_
      refine g_iald hC ka2 na2 dX12_judged_78 h hf (fun h => ?_)
      obtain ⟨q3, hq3, h⟩ := bd_of h hf
      refine g_cVV (As := [.int (σ.1 a1 (x2 - 1).toNatClampNeg), .int (σ.1 a2 x2.toNatClampNeg)]) hC hO (c_X12_addsAbove _ hC.2.2.2.2.2.2.1 t ht1 ht2 (σ.1 a1 (x2 - 1).toNatClampNeg) (σ.1 a2 x2.toNatClampNeg) σ (nn_of hq3)) gc_X12_329 (xk_X12_addsAbove _ (Nat.le_of_ble_eq_true rfl) (Nat.le_of_ble_eq_true rfl)) cr12 ht1 ht2 rfl (Nat.le_of_ble_eq_true rfl) dX12_judged_79 hq3 ?_
      refine g_aload_n hC dX12_judged_82 rfl 0 rfl ?_
      refine g_iload_n hC dX12_judged_83 rfl 2 rfl ?_
      obtain ⟨q4, hq4, h⟩ := bd_of h hf
      refine g_cVV (As := [.int x2]) hC hO (c_X12_findMore _ hC.2.2.2.2.2.2.1 t ht1 ht2 x2 q3 (nn_of hq4)) gc_X12_332 (xk_X12_findMore _ (Nat.le_of_ble_eq_true rfl) (Nat.le_of_ble_eq_true rfl)) cr12 ht1 ht2 rfl (Nat.le_of_ble_eq_true rfl) dX12_judged_84 hq4 ?_
      refine g_aload_n hC dX12_judged_87 rfl 0 rfl ?_
      refine g_getR (cj := 14) (k := 28) hC cr12 ui_12 ht1 ht2 (by decide) fl_X12_112 rfl rfl dX12_judged_88 h hf (fun a5 ea5 ka5 na5 h => ?_)
      refine g_iload_n hC dX12_judged_91 rfl 2 rfl ?_
      refine g_iald hC ka5 na5 dX12_judged_92 h hf (fun h => ?_)
      refine g_if_ne (tgt := 106) hC dX12_judged_93 (by decide) h (fun c93 h => ?_) (fun c93 h => ?_)
      · refine g_iinc (v := x2 + 1) (lv' := [(2, .int (x2 + 1)), (0, .ref (E.2.2.1 t)), (1, .int x1)]) hC dX12_judged_106 2 rfl rfl (by decide) rfl ?_
        refine g_goto (tgt := 56) hC dX12_judged_109 (by decide) ?_
        exact g_sub [1, 2, 0] rfl (ih (x2 + 1) q4 h)
      · refine g_iload_n hC dX12_judged_96 rfl 1 rfl ?_
        refine g_if_ne (tgt := 104) hC dX12_judged_97 (by decide) h (fun c97 h => ?_) (fun c97 h => ?_)
        · refine g_iload_n hC dX12_judged_104 rfl 2 rfl ?_
          exact g_sub [] rfl (k_X12_judged_105 hC hO hR hf x2 q4 h)
        · refine g_iconst (v := 0) hC dX12_judged_100 (by decide) ?_
          refine g_goto (tgt := 105) hC dX12_judged_101 (by decide) ?_
          exact g_sub [] rfl (k_X12_judged_105 hC hO hR hf 0 q4 h)
set_option maxHeartbeats 4000000 in
set_option maxRecDepth 100000 in
theorem k_X12_judged_25 {E : ET} {F : FT} {fo : Option (Int32 × HS)} (hC : Cx E F 3 cX12_judged RX12 GT) (hO : Ro F rm_X12_judged) (hR : RI E F .int fo) (hf : fo ≠ none) (t : Nat) (ht1 : kd t = 12) (ht2 : AL E t) (x1 : Int32) : ∀ (n : Nat) (x2 : Int32) (σ : HS), f_X12_judged_25 t x1 n x2 σ = fo → G E F 25 [(0, .ref (E.2.2.1 t)), (1, .int x1), (2, .int x2)] [] σ := by
  intro n
  induction n with
  | zero =>
    intro x2 σ h
    exact absurd (h.symm.trans rfl) hf
  | succ n ih =>
    intro x2 σ h
    refine g_iload_n hC dX12_judged_25 rfl 2 rfl ?_
    refine g_aload_n hC dX12_judged_26 rfl 0 rfl ?_
    refine g_getI (k := 24) hC cr12 ui_12 ht1 ht2 (by decide) fl_X12_210 rfl rfl dX12_judged_27 ?_
    refine g_icmp_ge (tgt := 54) hC dX12_judged_30 (by decide) h (fun c30 h => ?_) (fun c30 h => ?_)
    · refine g_iconst (v := 1) hC dX12_judged_54 (by decide) ?_
      refine g_istore_n (lv' := [(2, .int 1), (0, .ref (E.2.2.1 t)), (1, .int x1)]) hC dX12_judged_55 rfl (by decide) rfl ?_
      exact g_sub [1, 2, 0] rfl (k_X12_judged_56 hC hO hR hf t ht1 ht2 x1 FU 1 σ h)
    · refine g_aload_n hC dX12_judged_33 rfl 0 rfl ?_
      refine g_aload_n hC dX12_judged_34 rfl 0 rfl ?_
      refine g_getR (cj := 14) (k := 25) hC cr12 ui_12 ht1 ht2 (by decide) fl_X12_106 rfl rfl dX12_judged_35 h hf (fun a1 ea1 ka1 na1 h => ?_)
      refine g_iload_n hC dX12_judged_38 rfl 2 rfl ?_
      refine g_iald hC ka1 na1 dX12_judged_39 h hf (fun h => ?_)
      obtain ⟨q2, hq2, h⟩ := bd_of h hf
      refine g_cVI (As := [.int (σ.1 a1 x2.toNatClampNeg)]) hC hO (c_X12_isIn _ hC.2.2.2.2.2.2.1 t ht1 ht2 (σ.1 a1 x2.toNatClampNeg) σ (nn_of hq2)) gc_X12_223 (xk_X12_isIn _ (Nat.le_of_ble_eq_true rfl) (Nat.le_of_ble_eq_true rfl)) cr12 ht1 ht2 rfl (Nat.le_of_ble_eq_true rfl) dX12_judged_40 hq2 ?_
      refine g_if_ne (tgt := 48) hC dX12_judged_43 (by decide) h (fun c43 h => ?_) (fun c43 h => ?_)
      · refine g_iinc (v := x2 + 1) (lv' := [(2, .int (x2 + 1)), (0, .ref (E.2.2.1 t)), (1, .int x1)]) hC dX12_judged_48 2 rfl rfl (by decide) rfl ?_
        refine g_goto (tgt := 25) hC dX12_judged_51 (by decide) ?_
        exact g_sub [1, 2, 0] rfl (ih (x2 + 1) q2.2 h)
      · refine g_iconst (v := (-1)) hC dX12_judged_46 (by decide) ?_
        exact g_iret hC hR dX12_judged_47 rfl h
set_option maxHeartbeats 4000000 in
set_option maxRecDepth 100000 in
theorem k_X12_judged_0 {E : ET} {F : FT} {fo : Option (Int32 × HS)} (hC : Cx E F 3 cX12_judged RX12 GT) (hO : Ro F rm_X12_judged) (hR : RI E F .int fo) (hf : fo ≠ none) (t : Nat) (ht1 : kd t = 12) (ht2 : AL E t) (x1 : Int32) (σ : HS) (h : f_X12_judged t x1 σ = fo) : G E F 0 [(0, .ref (E.2.2.1 t)), (1, .int x1)] [] σ := by
    refine g_aload_n hC dX12_judged_0 rfl 0 rfl ?_
    refine g_iconst (v := 0) hC dX12_judged_1 (by decide) ?_
    refine g_putI (k := 0) hC cr12 ui_12 tyX12_ok nmX12 ht1 ht2 (by decide) fl_X12_1 rfl rfl rfl rfl dX12_judged_2 ?_
    refine g_iload_n hC dX12_judged_5 rfl 1 rfl ?_
    refine g_iconst (v := 0) hC dX12_judged_6 (by decide) ?_
    refine g_iconst (v := 1) hC dX12_judged_7 (by decide) ?_
    obtain ⟨q1, hq1, h⟩ := bd_of h hf
    refine g_cSI (As := [.int x1, .int 0, .int 1]) hC hO (c_X12_within _ hC.2.2.2.2.2.2.1 x1 0 1 (sI σ t 0 0) (nn_of hq1)) gc_X12_213 (xk_X12_within _ (Nat.le_of_ble_eq_true rfl) (Nat.le_of_ble_eq_true rfl)) rfl (Nat.le_of_ble_eq_true rfl) dX12_judged_8 hq1 ?_
    refine g_if_eq (tgt := 21) hC dX12_judged_11 (by decide) h (fun c11 h => ?_) (fun c11 h => ?_)
    · exact g_sub [] rfl (k_X12_judged_21 hC hO hR hf q1.2 h)
    · refine g_aload_n hC dX12_judged_14 rfl 0 rfl ?_
      obtain ⟨q2, hq2, h⟩ := bd_of h hf
      refine g_cVI (As := []) hC hO (c_X12_findNow _ hC.2.2.2.2.2.2.1 t ht1 ht2 q1.2 (nn_of hq2)) gc_X12_361 (xk_X12_findNow _ (Nat.le_of_ble_eq_true rfl) (Nat.le_of_ble_eq_true rfl)) cr12 ht1 ht2 rfl (Nat.le_of_ble_eq_true rfl) dX12_judged_15 hq2 ?_
      refine g_if_ne (tgt := 23) hC dX12_judged_18 (by decide) h (fun c18 h => ?_) (fun c18 h => ?_)
      · refine g_iconst (v := 0) hC dX12_judged_23 (by decide) ?_
        refine g_istore_n (lv' := [(2, .int 0), (0, .ref (E.2.2.1 t)), (1, .int x1)]) hC dX12_judged_24 rfl (by decide) rfl ?_
        exact g_sub [1, 2, 0] rfl (k_X12_judged_25 hC hO hR hf t ht1 ht2 x1 FU 0 q2.2 h)
      · exact g_sub [] rfl (k_X12_judged_21 hC hO hR hf q2.2 h)
theorem xk_X12_judged (R : Room) (h1 : 7 + 1 ≤ R.frames) (h2 : 273 ≤ R.locals) : xw R yX12_judged w_X12_judged GT cX12_judged 3 (some .int) rm_X12_judged 1 := ⟨rfl, rfl, rfl, h1, h2, ⟨by decide, by decide⟩, by decide +kernel⟩
theorem c_X12_judged (E : ET) (hE : EO E) (t : Nat) (ht1 : kd t = 12) (ht2 : AL E t) (x1 : Int32) (σ : HS) (hn : f_X12_judged t x1 σ ≠ none) : CoI E yX12_judged w_X12_judged rm_X12_judged [.ref (E.2.2.1 t), .int x1] σ (f_X12_judged t x1 σ) := CoI.of (lv := [(0, .ref (E.2.2.1 t)), (1, .int x1)]) hE (plainFor_of_name (by decide)) rfl (Nat.le_of_ble_eq_true rfl) rfl (fun F hC hO hR => k_X12_judged_0 hC hO hR hn t ht1 ht2 x1 σ rfl)
def rm_X12_worst : Room := { frames := 3, cells := 0, slots := 0, locals := 102 }
set_option maxHeartbeats 4000000 in
set_option maxRecDepth 100000 in
theorem k_X12_worst_114 {E : ET} {F : FT} {fo : Option (Int32 × HS)} (hC : Cx E F 6 cX12_worst RX12 GT) (hO : Ro F rm_X12_worst) (hR : RI E F .int fo) (hf : fo ≠ none) (t : Nat) (ht1 : kd t = 12) (ht2 : AL E t) (x1 : Int32) (x2 : Int32) (x3 : Int32) (r11 : Int32 → Int32 → Int32 → HS → Option (Int32 × HS)) (h11 : ∀ (x1 : Int32) (x2 : Int32) (x3 : Int32) (σ : HS), r11 x1 x2 x3 σ = fo → G E F 11 [(0, .ref (E.2.2.1 t)), (1, .int x1), (2, .int x2), (3, .int x3)] [] σ) (σ : HS) (h : f_X12_worst_114 r11 t x1 x2 x3 σ = fo) : G E F 114 [(0, .ref (E.2.2.1 t)), (1, .int x1), (2, .int x2), (3, .int x3)] [] σ := by
    refine g_iinc (v := x3 + 1) (lv' := [(3, .int (x3 + 1)), (0, .ref (E.2.2.1 t)), (1, .int x1), (2, .int x2)]) hC dX12_worst_114 3 rfl rfl (by decide) rfl ?_
    refine g_goto (tgt := 11) hC dX12_worst_117 (by decide) ?_
    exact g_sub [1, 2, 3, 0] rfl (h11 x1 x2 (x3 + 1) σ h)
set_option maxHeartbeats 4000000 in
set_option maxRecDepth 100000 in
theorem k_X12_worst_113 {E : ET} {F : FT} {fo : Option (Int32 × HS)} (hC : Cx E F 6 cX12_worst RX12 GT) (hO : Ro F rm_X12_worst) (hR : RI E F .int fo) (hf : fo ≠ none) (t : Nat) (ht1 : kd t = 12) (ht2 : AL E t) (x2 : Int32) (x3 : Int32) (s0 : Int32) (r11 : Int32 → Int32 → Int32 → HS → Option (Int32 × HS)) (h11 : ∀ (x1 : Int32) (x2 : Int32) (x3 : Int32) (σ : HS), r11 x1 x2 x3 σ = fo → G E F 11 [(0, .ref (E.2.2.1 t)), (1, .int x1), (2, .int x2), (3, .int x3)] [] σ) (σ : HS) (h : f_X12_worst_113 r11 t x2 x3 s0 σ = fo) : G E F 113 [(0, .ref (E.2.2.1 t)), (2, .int x2), (3, .int x3)] [.int s0] σ := by
    refine g_istore_n (lv' := [(1, .int s0), (0, .ref (E.2.2.1 t)), (2, .int x2), (3, .int x3)]) hC dX12_worst_113 rfl (by decide) rfl ?_
    exact g_sub [1, 0, 2, 3] rfl (k_X12_worst_114 hC hO hR hf t ht1 ht2 s0 x2 x3 r11 h11 σ h)
set_option maxHeartbeats 4000000 in
set_option maxRecDepth 100000 in
theorem k_X12_worst_100 {E : ET} {F : FT} {fo : Option (Int32 × HS)} (hC : Cx E F 6 cX12_worst RX12 GT) (hO : Ro F rm_X12_worst) (hR : RI E F .int fo) (hf : fo ≠ none) (t : Nat) (ht1 : kd t = 12) (ht2 : AL E t) (x1 : Int32) (x3 : Int32) (x4 : Int32) (s0 : Int32) (r11 : Int32 → Int32 → Int32 → HS → Option (Int32 × HS)) (h11 : ∀ (x1 : Int32) (x2 : Int32) (x3 : Int32) (σ : HS), r11 x1 x2 x3 σ = fo → G E F 11 [(0, .ref (E.2.2.1 t)), (1, .int x1), (2, .int x2), (3, .int x3)] [] σ) (σ : HS) (h : f_X12_worst_100 r11 t x1 x3 x4 s0 σ = fo) : G E F 100 [(0, .ref (E.2.2.1 t)), (1, .int x1), (3, .int x3), (4, .int x4)] [.int s0] σ := by
    refine g_istore_n (lv' := [(2, .int s0), (0, .ref (E.2.2.1 t)), (1, .int x1), (3, .int x3), (4, .int x4)]) hC dX12_worst_100 rfl (by decide) rfl ?_
    refine g_iload hC dX12_worst_101 4 rfl ?_
    refine g_iload_n hC dX12_worst_103 rfl 2 rfl ?_
    refine g_icmp_le (tgt := 112) hC dX12_worst_104 (by decide) h (fun c104 h => ?_) (fun c104 h => ?_)
    · refine g_iload_n hC dX12_worst_112 rfl 2 rfl ?_
      exact g_sub [1, 0, 3] rfl (k_X12_worst_113 hC hO hR hf t ht1 ht2 s0 x3 x1 r11 h11 σ h)
    · refine g_iload hC dX12_worst_107 4 rfl ?_
      refine g_goto (tgt := 113) hC dX12_worst_109 (by decide) ?_
      exact g_sub [1, 0, 3] rfl (k_X12_worst_113 hC hO hR hf t ht1 ht2 s0 x3 x4 r11 h11 σ h)
set_option maxHeartbeats 4000000 in
set_option maxRecDepth 100000 in
theorem k_X12_worst_65 {E : ET} {F : FT} {fo : Option (Int32 × HS)} (hC : Cx E F 6 cX12_worst RX12 GT) (hO : Ro F rm_X12_worst) (hR : RI E F .int fo) (hf : fo ≠ none) (t : Nat) (ht1 : kd t = 12) (ht2 : AL E t) (x1 : Int32) (x2 : Int32) (x3 : Int32) (x5 : Int32) (s0 : Int32) (r11 : Int32 → Int32 → Int32 → HS → Option (Int32 × HS)) (h11 : ∀ (x1 : Int32) (x2 : Int32) (x3 : Int32) (σ : HS), r11 x1 x2 x3 σ = fo → G E F 11 [(0, .ref (E.2.2.1 t)), (1, .int x1), (2, .int x2), (3, .int x3)] [] σ) (r32 : Int32 → Int32 → HS → Option (Int32 × HS)) (h32 : ∀ (x4 : Int32) (x5 : Int32) (σ : HS), r32 x4 x5 σ = fo → G E F 32 [(0, .ref (E.2.2.1 t)), (1, .int x1), (2, .int x2), (3, .int x3), (4, .int x4), (5, .int x5)] [] σ) (σ : HS) (h : f_X12_worst_65 r11 r32 t x1 x2 x3 x5 s0 σ = fo) : G E F 65 [(0, .ref (E.2.2.1 t)), (1, .int x1), (2, .int x2), (3, .int x3), (5, .int x5)] [.int s0] σ := by
    refine g_istore (lv' := [(4, .int s0), (0, .ref (E.2.2.1 t)), (1, .int x1), (2, .int x2), (3, .int x3), (5, .int x5)]) hC dX12_worst_65 (by decide) rfl ?_
    refine g_iinc (v := x5 + 1) (lv' := [(5, .int (x5 + 1)), (4, .int s0), (0, .ref (E.2.2.1 t)), (1, .int x1), (2, .int x2), (3, .int x3)]) hC dX12_worst_67 5 rfl rfl (by decide) rfl ?_
    refine g_goto (tgt := 32) hC dX12_worst_70 (by decide) ?_
    exact g_sub [2, 3, 4, 5, 1, 0] rfl (h32 s0 (x5 + 1) σ h)
set_option maxHeartbeats 4000000 in
set_option maxRecDepth 100000 in
theorem k_X12_worst_32 {E : ET} {F : FT} {fo : Option (Int32 × HS)} (hC : Cx E F 6 cX12_worst RX12 GT) (hO : Ro F rm_X12_worst) (hR : RI E F .int fo) (hf : fo ≠ none) (t : Nat) (ht1 : kd t = 12) (ht2 : AL E t) (x1 : Int32) (x2 : Int32) (x3 : Int32) (r11 : Int32 → Int32 → Int32 → HS → Option (Int32 × HS)) (h11 : ∀ (x1 : Int32) (x2 : Int32) (x3 : Int32) (σ : HS), r11 x1 x2 x3 σ = fo → G E F 11 [(0, .ref (E.2.2.1 t)), (1, .int x1), (2, .int x2), (3, .int x3)] [] σ) : ∀ (n : Nat) (x4 : Int32) (x5 : Int32) (σ : HS), f_X12_worst_32 t x1 x2 x3 r11 n x4 x5 σ = fo → G E F 32 [(0, .ref (E.2.2.1 t)), (1, .int x1), (2, .int x2), (3, .int x3), (4, .int x4), (5, .int x5)] [] σ := by
  intro n
  induction n with
  | zero =>
    intro x4 x5 σ h
    exact absurd (h.symm.trans rfl) hf
  | succ n ih =>
    intro x4 x5 σ h
    refine g_iload hC dX12_worst_32 5 rfl ?_
    refine g_aload_n hC dX12_worst_34 rfl 0 rfl ?_
    refine g_getI (k := 20) hC cr12 ui_12 ht1 ht2 (by decide) fl_X12_193 rfl rfl dX12_worst_35 ?_
    refine g_icmp_ge (tgt := 73) hC dX12_worst_38 (by decide) h (fun c38 h => ?_) (fun c38 h => ?_)
    · refine g_iload hC dX12_worst_73 4 rfl ?_
      refine g_iload_n hC dX12_worst_75 rfl 1 rfl ?_
      refine g_icmp_le (tgt := 85) hC dX12_worst_76 (by decide) h (fun c76 h => ?_) (fun c76 h => ?_)
      · refine g_iload hC dX12_worst_85 4 rfl ?_
        refine g_iload_n hC dX12_worst_87 rfl 1 rfl ?_
        refine g_icmp_ne (tgt := 99) hC dX12_worst_88 (by decide) h (fun c88 h => ?_) (fun c88 h => ?_)
        · refine g_iload_n hC dX12_worst_99 rfl 2 rfl ?_
          exact g_sub [0, 1, 3, 4] rfl (k_X12_worst_100 hC hO hR hf t ht1 ht2 x1 x3 x4 x2 r11 h11 σ h)
        · refine g_iload_n hC dX12_worst_91 rfl 2 rfl ?_
          refine g_iconst (v := 1) hC dX12_worst_92 (by decide) ?_
          refine g_iload_n hC dX12_worst_93 rfl 3 rfl ?_
          refine g_ishl hC dX12_worst_94 ?_
          refine g_ior hC dX12_worst_95 ?_
          refine g_goto (tgt := 100) hC dX12_worst_96 (by decide) ?_
          exact g_sub [0, 1, 3, 4] rfl (k_X12_worst_100 hC hO hR hf t ht1 ht2 x1 x3 x4 (x2 ||| ((1 : Int32) <<< (x3 &&& 31))) r11 h11 σ h)
      · refine g_iconst (v := 1) hC dX12_worst_79 (by decide) ?_
        refine g_iload_n hC dX12_worst_80 rfl 3 rfl ?_
        refine g_ishl hC dX12_worst_81 ?_
        refine g_goto (tgt := 100) hC dX12_worst_82 (by decide) ?_
        exact g_sub [0, 1, 3, 4] rfl (k_X12_worst_100 hC hO hR hf t ht1 ht2 x1 x3 x4 ((1 : Int32) <<< (x3 &&& 31)) r11 h11 σ h)
    · refine g_aload_n hC dX12_worst_41 rfl 0 rfl ?_
      refine g_iload_n hC dX12_worst_42 rfl 3 rfl ?_
      refine g_iload hC dX12_worst_43 5 rfl ?_
      obtain ⟨q1, hq1, h⟩ := bd_of h hf
      refine g_cVI (As := [.int x3, .int x5]) hC hO (c_X12_valueOf _ hC.2.2.2.2.2.2.1 t ht1 ht2 x3 x5 σ (nn_of hq1)) gc_X12_226 (xk_X12_valueOf _ (Nat.le_of_ble_eq_true rfl) (Nat.le_of_ble_eq_true rfl)) cr12 ht1 ht2 rfl (Nat.le_of_ble_eq_true rfl) dX12_worst_45 hq1 ?_
      refine g_iload hC dX12_worst_48 4 rfl ?_
      refine g_icmp_ge (tgt := 63) hC dX12_worst_50 (by decide) h (fun c50 h => ?_) (fun c50 h => ?_)
      · refine g_iload hC dX12_worst_63 4 rfl ?_
        exact g_sub [0, 1, 2, 3, 5] rfl (k_X12_worst_65 hC hO hR hf t ht1 ht2 x1 x2 x3 x5 x4 r11 h11 (f_X12_worst_32 t x1 x2 x3 r11 n) ih q1.2 h)
      · refine g_aload_n hC dX12_worst_53 rfl 0 rfl ?_
        refine g_iload_n hC dX12_worst_54 rfl 3 rfl ?_
        refine g_iload hC dX12_worst_55 5 rfl ?_
        obtain ⟨q2, hq2, h⟩ := bd_of h hf
        refine g_cVI (As := [.int x3, .int x5]) hC hO (c_X12_valueOf _ hC.2.2.2.2.2.2.1 t ht1 ht2 x3 x5 q1.2 (nn_of hq2)) gc_X12_226 (xk_X12_valueOf _ (Nat.le_of_ble_eq_true rfl) (Nat.le_of_ble_eq_true rfl)) cr12 ht1 ht2 rfl (Nat.le_of_ble_eq_true rfl) dX12_worst_57 hq2 ?_
        refine g_goto (tgt := 65) hC dX12_worst_60 (by decide) ?_
        exact g_sub [0, 1, 2, 3, 5] rfl (k_X12_worst_65 hC hO hR hf t ht1 ht2 x1 x2 x3 x5 q2.1 r11 h11 (f_X12_worst_32 t x1 x2 x3 r11 n) ih q2.2 h)
set_option maxHeartbeats 4000000 in
set_option maxRecDepth 100000 in
theorem k_X12_worst_11 {E : ET} {F : FT} {fo : Option (Int32 × HS)} (hC : Cx E F 6 cX12_worst RX12 GT) (hO : Ro F rm_X12_worst) (hR : RI E F .int fo) (hf : fo ≠ none) (t : Nat) (ht1 : kd t = 12) (ht2 : AL E t) : ∀ (n : Nat) (x1 : Int32) (x2 : Int32) (x3 : Int32) (σ : HS), f_X12_worst_11 t n x1 x2 x3 σ = fo → G E F 11 [(0, .ref (E.2.2.1 t)), (1, .int x1), (2, .int x2), (3, .int x3)] [] σ := by
  intro n
  induction n with
  | zero =>
    intro x1 x2 x3 σ h
    exact absurd (h.symm.trans rfl) hf
  | succ n ih =>
    intro x1 x2 x3 σ h
    refine g_iload_n hC dX12_worst_11 rfl 3 rfl ?_
    refine g_bipush (v := 8) hC dX12_worst_12 (by decide) ?_
    refine g_icmp_ge (tgt := 120) hC dX12_worst_14 (by decide) h (fun c14 h => ?_) (fun c14 h => ?_)
    · refine g_iload_n hC dX12_worst_120 rfl 2 rfl ?_
      exact g_iret hC hR dX12_worst_121 rfl h
    · refine g_aload_n hC dX12_worst_17 rfl 0 rfl ?_
      refine g_iload_n hC dX12_worst_18 rfl 3 rfl ?_
      obtain ⟨q1, hq1, h⟩ := bd_of h hf
      refine g_cVI (As := [.int x3]) hC hO (c_X12_isIn _ hC.2.2.2.2.2.2.1 t ht1 ht2 x3 σ (nn_of hq1)) gc_X12_223 (xk_X12_isIn _ (Nat.le_of_ble_eq_true rfl) (Nat.le_of_ble_eq_true rfl)) cr12 ht1 ht2 rfl (Nat.le_of_ble_eq_true rfl) dX12_worst_19 hq1 ?_
      refine g_if_eq (tgt := 114) hC dX12_worst_22 (by decide) h (fun c22 h => ?_) (fun c22 h => ?_)
      · exact g_sub [0, 1, 2, 3] rfl (k_X12_worst_114 hC hO hR hf t ht1 ht2 x1 x2 x3 (f_X12_worst_11 t n) ih q1.2 h)
      · refine g_bipush (v := 100) hC dX12_worst_25 (by decide) ?_
        refine g_istore (lv' := [(4, .int 100), (0, .ref (E.2.2.1 t)), (1, .int x1), (2, .int x2), (3, .int x3)]) hC dX12_worst_27 (by decide) rfl ?_
        refine g_iconst (v := 0) hC dX12_worst_29 (by decide) ?_
        refine g_istore (lv' := [(5, .int 0), (4, .int 100), (0, .ref (E.2.2.1 t)), (1, .int x1), (2, .int x2), (3, .int x3)]) hC dX12_worst_30 (by decide) rfl ?_
        exact g_sub [2, 3, 4, 5, 1, 0] rfl (k_X12_worst_32 hC hO hR hf t ht1 ht2 x1 x2 x3 (f_X12_worst_11 t n) ih FU 100 0 q1.2 h)
set_option maxHeartbeats 4000000 in
set_option maxRecDepth 100000 in
theorem k_X12_worst_0 {E : ET} {F : FT} {fo : Option (Int32 × HS)} (hC : Cx E F 6 cX12_worst RX12 GT) (hO : Ro F rm_X12_worst) (hR : RI E F .int fo) (hf : fo ≠ none) (t : Nat) (ht1 : kd t = 12) (ht2 : AL E t) (σ : HS) (h : f_X12_worst t σ = fo) : G E F 0 [(0, .ref (E.2.2.1 t))] [] σ := by
    refine g_aload_n hC dX12_worst_0 rfl 0 rfl ?_
    refine g_iconst (v := 0) hC dX12_worst_1 (by decide) ?_
    refine g_putI (k := 0) hC cr12 ui_12 tyX12_ok nmX12 ht1 ht2 (by decide) fl_X12_1 rfl rfl rfl rfl dX12_worst_2 ?_
    refine g_iconst (v := (-1)) hC dX12_worst_5 (by decide) ?_
    refine g_istore_n (lv' := [(1, .int (-1)), (0, .ref (E.2.2.1 t))]) hC dX12_worst_6 rfl (by decide) rfl ?_
    refine g_iconst (v := 0) hC dX12_worst_7 (by decide) ?_
    refine g_istore_n (lv' := [(2, .int 0), (1, .int (-1)), (0, .ref (E.2.2.1 t))]) hC dX12_worst_8 rfl (by decide) rfl ?_
    refine g_iconst (v := 0) hC dX12_worst_9 (by decide) ?_
    refine g_istore_n (lv' := [(3, .int 0), (2, .int 0), (1, .int (-1)), (0, .ref (E.2.2.1 t))]) hC dX12_worst_10 rfl (by decide) rfl ?_
    exact g_sub [3, 2, 1, 0] rfl (k_X12_worst_11 hC hO hR hf t ht1 ht2 FU (-1) 0 0 (sI σ t 0 0) h)
theorem xk_X12_worst (R : Room) (h1 : 3 + 1 ≤ R.frames) (h2 : 139 ≤ R.locals) : xw R yX12_worst w_X12_worst GT cX12_worst 6 (some .int) rm_X12_worst 0 := ⟨rfl, rfl, rfl, h1, h2, ⟨by decide, by decide⟩, by decide +kernel⟩
theorem c_X12_worst (E : ET) (hE : EO E) (t : Nat) (ht1 : kd t = 12) (ht2 : AL E t) (σ : HS) (hn : f_X12_worst t σ ≠ none) : CoI E yX12_worst w_X12_worst rm_X12_worst [.ref (E.2.2.1 t)] σ (f_X12_worst t σ) := CoI.of (lv := [(0, .ref (E.2.2.1 t))]) hE (plainFor_of_name (by decide)) rfl (Nat.le_of_ble_eq_true rfl) rfl (fun F hC hO hR => k_X12_worst_0 hC hO hR hn t ht1 ht2 σ rfl)
def rm_X12_bestOf : Room := { frames := 2, cells := 0, slots := 0, locals := 69 }
set_option maxHeartbeats 4000000 in
set_option maxRecDepth 100000 in
theorem k_X12_bestOf_80 {E : ET} {F : FT} {fo : Option (Int32 × HS)} (hC : Cx E F 7 cX12_bestOf RX12 GT) (hO : Ro F rm_X12_bestOf) (hR : RI E F .int fo) (hf : fo ≠ none) (t : Nat) (ht1 : kd t = 12) (ht2 : AL E t) (x1 : Int32) (x2 : Int32) (x3 : Int32) (x4 : Int32) (x5 : Int32) (r8 : Int32 → Int32 → Int32 → HS → Option (Int32 × HS)) (h8 : ∀ (x3 : Int32) (x4 : Int32) (x5 : Int32) (σ : HS), r8 x3 x4 x5 σ = fo → G E F 8 [(0, .ref (E.2.2.1 t)), (1, .int x1), (2, .int x2), (3, .int x3), (4, .int x4), (5, .int x5)] [] σ) (σ : HS) (h : f_X12_bestOf_80 r8 t x1 x2 x3 x4 x5 σ = fo) : G E F 80 [(0, .ref (E.2.2.1 t)), (1, .int x1), (2, .int x2), (3, .int x3), (4, .int x4), (5, .int x5)] [] σ := by
    refine g_iinc (v := x5 + 1) (lv' := [(5, .int (x5 + 1)), (0, .ref (E.2.2.1 t)), (1, .int x1), (2, .int x2), (3, .int x3), (4, .int x4)]) hC dX12_bestOf_80 5 rfl rfl (by decide) rfl ?_
    refine g_goto (tgt := 8) hC dX12_bestOf_83 (by decide) ?_
    exact g_sub [1, 2, 3, 4, 5, 0] rfl (h8 x3 x4 (x5 + 1) σ h)
set_option maxHeartbeats 4000000 in
set_option maxRecDepth 100000 in
theorem k_X12_bestOf_79 {E : ET} {F : FT} {fo : Option (Int32 × HS)} (hC : Cx E F 7 cX12_bestOf RX12 GT) (hO : Ro F rm_X12_bestOf) (hR : RI E F .int fo) (hf : fo ≠ none) (t : Nat) (ht1 : kd t = 12) (ht2 : AL E t) (x1 : Int32) (x2 : Int32) (x4 : Int32) (x5 : Int32) (s0 : Int32) (r8 : Int32 → Int32 → Int32 → HS → Option (Int32 × HS)) (h8 : ∀ (x3 : Int32) (x4 : Int32) (x5 : Int32) (σ : HS), r8 x3 x4 x5 σ = fo → G E F 8 [(0, .ref (E.2.2.1 t)), (1, .int x1), (2, .int x2), (3, .int x3), (4, .int x4), (5, .int x5)] [] σ) (σ : HS) (h : f_X12_bestOf_79 r8 t x1 x2 x4 x5 s0 σ = fo) : G E F 79 [(0, .ref (E.2.2.1 t)), (1, .int x1), (2, .int x2), (4, .int x4), (5, .int x5)] [.int s0] σ := by
    refine g_istore_n (lv' := [(3, .int s0), (0, .ref (E.2.2.1 t)), (1, .int x1), (2, .int x2), (4, .int x4), (5, .int x5)]) hC dX12_bestOf_79 rfl (by decide) rfl ?_
    exact g_sub [1, 2, 3, 0, 4, 5] rfl (k_X12_bestOf_80 hC hO hR hf t ht1 ht2 x1 x2 s0 x4 x5 r8 h8 σ h)
set_option maxHeartbeats 4000000 in
set_option maxRecDepth 100000 in
theorem k_X12_bestOf_65 {E : ET} {F : FT} {fo : Option (Int32 × HS)} (hC : Cx E F 7 cX12_bestOf RX12 GT) (hO : Ro F rm_X12_bestOf) (hR : RI E F .int fo) (hf : fo ≠ none) (t : Nat) (ht1 : kd t = 12) (ht2 : AL E t) (x1 : Int32) (x2 : Int32) (x3 : Int32) (x5 : Int32) (x6 : Int32) (s0 : Int32) (r8 : Int32 → Int32 → Int32 → HS → Option (Int32 × HS)) (h8 : ∀ (x3 : Int32) (x4 : Int32) (x5 : Int32) (σ : HS), r8 x3 x4 x5 σ = fo → G E F 8 [(0, .ref (E.2.2.1 t)), (1, .int x1), (2, .int x2), (3, .int x3), (4, .int x4), (5, .int x5)] [] σ) (σ : HS) (h : f_X12_bestOf_65 r8 t x1 x2 x3 x5 x6 s0 σ = fo) : G E F 65 [(0, .ref (E.2.2.1 t)), (1, .int x1), (2, .int x2), (3, .int x3), (5, .int x5), (6, .int x6)] [.int s0] σ := by
    refine g_istore (lv' := [(4, .int s0), (0, .ref (E.2.2.1 t)), (1, .int x1), (2, .int x2), (3, .int x3), (5, .int x5), (6, .int x6)]) hC dX12_bestOf_65 (by decide) rfl ?_
    refine g_iload hC dX12_bestOf_67 6 rfl ?_
    refine g_iload_n hC dX12_bestOf_69 rfl 4 rfl ?_
    refine g_icmp_le (tgt := 78) hC dX12_bestOf_70 (by decide) h (fun c70 h => ?_) (fun c70 h => ?_)
    · refine g_iload_n hC dX12_bestOf_78 rfl 4 rfl ?_
      exact g_sub [1, 2, 3, 0, 5] rfl (k_X12_bestOf_79 hC hO hR hf t ht1 ht2 x1 x2 s0 x5 x3 r8 h8 σ h)
    · refine g_iload hC dX12_bestOf_73 6 rfl ?_
      refine g_goto (tgt := 79) hC dX12_bestOf_75 (by decide) ?_
      exact g_sub [1, 2, 3, 0, 5] rfl (k_X12_bestOf_79 hC hO hR hf t ht1 ht2 x1 x2 s0 x5 x6 r8 h8 σ h)
set_option maxHeartbeats 4000000 in
set_option maxRecDepth 100000 in
theorem k_X12_bestOf_8 {E : ET} {F : FT} {fo : Option (Int32 × HS)} (hC : Cx E F 7 cX12_bestOf RX12 GT) (hO : Ro F rm_X12_bestOf) (hR : RI E F .int fo) (hf : fo ≠ none) (t : Nat) (ht1 : kd t = 12) (ht2 : AL E t) (x1 : Int32) (x2 : Int32) : ∀ (n : Nat) (x3 : Int32) (x4 : Int32) (x5 : Int32) (σ : HS), f_X12_bestOf_8 t x1 x2 n x3 x4 x5 σ = fo → G E F 8 [(0, .ref (E.2.2.1 t)), (1, .int x1), (2, .int x2), (3, .int x3), (4, .int x4), (5, .int x5)] [] σ := by
  intro n
  induction n with
  | zero =>
    intro x3 x4 x5 σ h
    exact absurd (h.symm.trans rfl) hf
  | succ n ih =>
    intro x3 x4 x5 σ h
    refine g_iload hC dX12_bestOf_8 5 rfl ?_
    refine g_bipush (v := 8) hC dX12_bestOf_10 (by decide) ?_
    refine g_icmp_ge (tgt := 86) hC dX12_bestOf_12 (by decide) h (fun c12 h => ?_) (fun c12 h => ?_)
    · refine g_iload hC dX12_bestOf_86 4 rfl ?_
      exact g_iret hC hR dX12_bestOf_88 rfl h
    · refine g_iload_n hC dX12_bestOf_15 rfl 1 rfl ?_
      refine g_iload hC dX12_bestOf_16 5 rfl ?_
      refine g_ishr hC dX12_bestOf_18 ?_
      refine g_iconst (v := 1) hC dX12_bestOf_19 (by decide) ?_
      refine g_iand hC dX12_bestOf_20 ?_
      refine g_iconst (v := 1) hC dX12_bestOf_21 (by decide) ?_
      refine g_icmp_ne (tgt := 80) hC dX12_bestOf_22 (by decide) h (fun c22 h => ?_) (fun c22 h => ?_)
      · exact g_sub [0, 1, 2, 3, 4, 5] rfl (k_X12_bestOf_80 hC hO hR hf t ht1 ht2 x1 x2 x3 x4 x5 (f_X12_bestOf_8 t x1 x2 n) ih σ h)
      · refine g_aload_n hC dX12_bestOf_25 rfl 0 rfl ?_
        refine g_iload hC dX12_bestOf_26 5 rfl ?_
        refine g_iload_n hC dX12_bestOf_28 rfl 2 rfl ?_
        obtain ⟨q1, hq1, h⟩ := bd_of h hf
        refine g_cVI (As := [.int x5, .int x2]) hC hO (c_X12_valueOf _ hC.2.2.2.2.2.2.1 t ht1 ht2 x5 x2 σ (nn_of hq1)) gc_X12_226 (xk_X12_valueOf _ (Nat.le_of_ble_eq_true rfl) (Nat.le_of_ble_eq_true rfl)) cr12 ht1 ht2 rfl (Nat.le_of_ble_eq_true rfl) dX12_bestOf_29 hq1 ?_
        refine g_istore (lv' := [(6, .int q1.1), (0, .ref (E.2.2.1 t)), (1, .int x1), (2, .int x2), (3, .int x3), (4, .int x4), (5, .int x5)]) hC dX12_bestOf_32 (by decide) rfl ?_
        refine g_iload hC dX12_bestOf_34 0 rfl ?_
        refine g_iload_n hC dX12_bestOf_36 rfl 4 rfl ?_
        refine g_icmp_le (tgt := 47) hC dX12_bestOf_37 (by decide) h (fun c37 h => ?_) (fun c37 h => ?_)
        · refine g_iload hC dX12_bestOf_47 0 rfl ?_
          refine g_iload_n hC dX12_bestOf_49 rfl 4 rfl ?_
          refine g_icmp_ne (tgt := 63) hC dX12_bestOf_50 (by decide) h (fun c50 h => ?_) (fun c50 h => ?_)
          · refine g_iload hC dX12_bestOf_63 5 rfl ?_
            exact g_sub [1, 2, 3, 4, 6, 0] rfl (k_X12_bestOf_65 hC hO hR hf t ht1 ht2 x1 x2 x3 x5 q1.1 x4 (f_X12_bestOf_8 t x1 x2 n) ih q1.2 h)
          · refine g_iload hC dX12_bestOf_53 5 rfl ?_
            refine g_iconst (v := 1) hC dX12_bestOf_55 (by decide) ?_
            refine g_iload hC dX12_bestOf_56 6 rfl ?_
            refine g_ishl hC dX12_bestOf_58 ?_
            refine g_ior hC dX12_bestOf_59 ?_
            refine g_goto (tgt := 65) hC dX12_bestOf_60 (by decide) ?_
            exact g_sub [1, 2, 3, 4, 6, 0] rfl (k_X12_bestOf_65 hC hO hR hf t ht1 ht2 x1 x2 x3 x5 q1.1 (x4 ||| ((1 : Int32) <<< (x5 &&& 31))) (f_X12_bestOf_8 t x1 x2 n) ih q1.2 h)
        · refine g_iconst (v := 1) hC dX12_bestOf_40 (by decide) ?_
          refine g_iload hC dX12_bestOf_41 6 rfl ?_
          refine g_ishl hC dX12_bestOf_43 ?_
          refine g_goto (tgt := 65) hC dX12_bestOf_44 (by decide) ?_
          exact g_sub [1, 2, 3, 4, 6, 0] rfl (k_X12_bestOf_65 hC hO hR hf t ht1 ht2 x1 x2 x3 x5 q1.1 ((1 : Int32) <<< (x5 &&& 31)) (f_X12_bestOf_8 t x1 x2 n) ih q1.2 h)
set_option maxHeartbeats 4000000 in
set_option maxRecDepth 100000 in
theorem k_X12_bestOf_0 {E : ET} {F : FT} {fo : Option (Int32 × HS)} (hC : Cx E F 7 cX12_bestOf RX12 GT) (hO : Ro F rm_X12_bestOf) (hR : RI E F .int fo) (hf : fo ≠ none) (t : Nat) (ht1 : kd t = 12) (ht2 : AL E t) (x1 : Int32) (x2 : Int32) (σ : HS) (h : f_X12_bestOf t x1 x2 σ = fo) : G E F 0 [(0, .ref (E.2.2.1 t)), (1, .int x1), (2, .int x2)] [] σ := by
    refine g_iconst (v := (-1)) hC dX12_bestOf_0 (by decide) ?_
    refine g_istore_n (lv' := [(3, .int (-1)), (0, .ref (E.2.2.1 t)), (1, .int x1), (2, .int x2)]) hC dX12_bestOf_1 rfl (by decide) rfl ?_
    refine g_iconst (v := 0) hC dX12_bestOf_2 (by decide) ?_
    refine g_istore (lv' := [(4, .int 0), (3, .int (-1)), (0, .ref (E.2.2.1 t)), (1, .int x1), (2, .int x2)]) hC dX12_bestOf_3 (by decide) rfl ?_
    refine g_iconst (v := 0) hC dX12_bestOf_5 (by decide) ?_
    refine g_istore (lv' := [(5, .int 0), (4, .int 0), (3, .int (-1)), (0, .ref (E.2.2.1 t)), (1, .int x1), (2, .int x2)]) hC dX12_bestOf_6 (by decide) rfl ?_
    exact g_sub [3, 4, 5, 2, 1, 0] rfl (k_X12_bestOf_8 hC hO hR hf t ht1 ht2 x1 x2 FU (-1) 0 0 σ h)
theorem xk_X12_bestOf (R : Room) (h1 : 2 + 1 ≤ R.frames) (h2 : 107 ≤ R.locals) : xw R yX12_bestOf w_X12_bestOf GT cX12_bestOf 7 (some .int) rm_X12_bestOf 2 := ⟨rfl, rfl, rfl, h1, h2, ⟨by decide, by decide⟩, by decide +kernel⟩
theorem c_X12_bestOf (E : ET) (hE : EO E) (t : Nat) (ht1 : kd t = 12) (ht2 : AL E t) (x1 : Int32) (x2 : Int32) (σ : HS) (hn : f_X12_bestOf t x1 x2 σ ≠ none) : CoI E yX12_bestOf w_X12_bestOf rm_X12_bestOf [.ref (E.2.2.1 t), .int x1, .int x2] σ (f_X12_bestOf t x1 x2 σ) := CoI.of (lv := [(0, .ref (E.2.2.1 t)), (1, .int x1), (2, .int x2)]) hE (plainFor_of_name (by decide)) rfl (Nat.le_of_ble_eq_true rfl) rfl (fun F hC hO hR => k_X12_bestOf_0 hC hO hR hn t ht1 ht2 x1 x2 σ rfl)
def rm_X12_first : Room := { frames := 3, cells := 0, slots := 0, locals := 107 }
theorem wc_X12_bestOf : Cond.code yX12_bestOf cX12_bestOf 7 (some .int) ∈ GT := gtr_57 _ (List.mem_of_getElem? (i := 7) rfl)
theorem gc_X12_441 : GoodIn GT (wsV RX12 441 RX12 yX12_bestOf w_X12_bestOf) := gi_V (gtr_57 _ (List.mem_of_getElem? (i := 4) rfl)) (gtr_57 _ (List.mem_of_getElem? (i := 5) rfl)) (gtr_57 _ (List.mem_of_getElem? (i := 6) rfl)) (gtr_1 _ (List.mem_of_getElem? (i := 5) rfl)) wc_X12_bestOf
set_option maxHeartbeats 4000000 in
set_option maxRecDepth 100000 in
theorem k_X12_first_137 {E : ET} {F : FT} {fo : Option (Int32 × HS)} (hC : Cx E F 6 cX12_first RX12 GT) (hO : Ro F rm_X12_first) (hR : RI E F .int fo) (hf : fo ≠ none) (t : Nat) (ht1 : kd t = 12) (ht2 : AL E t) : ∀ (n : Nat) (x4 : Int32) (x5 : Int32) (σ : HS), f_X12_first_137 t n x4 x5 σ = fo → G E F 137 [(0, .ref (E.2.2.1 t)), (4, .int x4), (5, .int x5)] [] σ := by
  intro n
  induction n with
  | zero =>
    intro x4 x5 σ h
    exact absurd (h.symm.trans rfl) hf
  | succ n ih =>
    intro x4 x5 σ h
    refine g_iload hC dX12_first_137 2 rfl ?_
    refine g_aload_n hC dX12_first_139 rfl 0 rfl ?_
    refine g_getI (k := 20) hC cr12 ui_12 ht1 ht2 (by decide) fl_X12_193 rfl rfl dX12_first_140 ?_
    refine g_icmp_ge (tgt := 168) hC dX12_first_143 (by decide) h (fun c143 h => ?_) (fun c143 h => ?_)
    · refine g_iload hC dX12_first_168 1 rfl ?_
      exact g_iret hC hR dX12_first_170 rfl h
    · refine g_aload_n hC dX12_first_146 rfl 0 rfl ?_
      refine g_iload hC dX12_first_147 1 rfl ?_
      refine g_aload_n hC dX12_first_149 rfl 0 rfl ?_
      refine g_getR (cj := 15) (k := 35) hC cr12 ui_12 ht1 ht2 (by decide) fl_X12_127 rfl rfl dX12_first_150 h hf (fun a1 ea1 ka1 na1 h => ?_)
      refine g_iload hC dX12_first_153 2 rfl ?_
      refine g_lald hC ka1 na1 dX12_first_155 h hf (fun h => ?_)
      refine g_l2i hC dX12_first_156 ?_
      obtain ⟨q2, hq2, h⟩ := bd_of h hf
      refine g_cVI (As := [.int x4, .int ((σ.2.1 a1 x5.toNatClampNeg).toInt32)]) hC hO (c_X12_bestOf _ hC.2.2.2.2.2.2.1 t ht1 ht2 x4 ((σ.2.1 a1 x5.toNatClampNeg).toInt32) σ (nn_of hq2)) gc_X12_441 (xk_X12_bestOf _ (Nat.le_of_ble_eq_true rfl) (Nat.le_of_ble_eq_true rfl)) cr12 ht1 ht2 rfl (Nat.le_of_ble_eq_true rfl) dX12_first_157 hq2 ?_
      refine g_istore (lv' := [(4, .int q2.1), (0, .ref (E.2.2.1 t)), (5, .int x5)]) hC dX12_first_160 (by decide) rfl ?_
      refine g_iinc (v := x5 + 1) (lv' := [(5, .int (x5 + 1)), (4, .int q2.1), (0, .ref (E.2.2.1 t))]) hC dX12_first_162 2 rfl rfl (by decide) rfl ?_
      refine g_goto (tgt := 137) hC dX12_first_165 (by decide) ?_
      exact g_sub [2, 1, 0] rfl (ih q2.1 (x5 + 1) q2.2 h)
set_option maxHeartbeats 4000000 in
set_option maxRecDepth 100000 in
theorem k_X12_first_125 {E : ET} {F : FT} {fo : Option (Int32 × HS)} (hC : Cx E F 6 cX12_first RX12 GT) (hO : Ro F rm_X12_first) (hR : RI E F .int fo) (hf : fo ≠ none) (t : Nat) (ht1 : kd t = 12) (ht2 : AL E t) (x5 : Int32) (s0 : Int32) (s1 : Int32) (r99 : Int32 → Int32 → HS → Option (Int32 × HS)) (h99 : ∀ (x4 : Int32) (x5 : Int32) (σ : HS), r99 x4 x5 σ = fo → G E F 99 [(0, .ref (E.2.2.1 t)), (4, .int x4), (5, .int x5)] [] σ) (σ : HS) (h : f_X12_first_125 r99 t x5 s0 s1 σ = fo) : G E F 125 [(0, .ref (E.2.2.1 t)), (5, .int x5)] [.int s0, .int s1] σ := by
    refine g_ior hC dX12_first_125 ?_
    refine g_istore (lv' := [(4, .int (s1 ||| s0)), (0, .ref (E.2.2.1 t)), (5, .int x5)]) hC dX12_first_126 (by decide) rfl ?_
    refine g_iinc (v := x5 + 1) (lv' := [(5, .int (x5 + 1)), (4, .int (s1 ||| s0)), (0, .ref (E.2.2.1 t))]) hC dX12_first_128 2 rfl rfl (by decide) rfl ?_
    refine g_goto (tgt := 99) hC dX12_first_131 (by decide) ?_
    exact g_sub [2, 1, 0] rfl (h99 (s1 ||| s0) (x5 + 1) σ h)
set_option maxHeartbeats 4000000 in
set_option maxRecDepth 100000 in
theorem k_X12_first_99 {E : ET} {F : FT} {fo : Option (Int32 × HS)} (hC : Cx E F 6 cX12_first RX12 GT) (hO : Ro F rm_X12_first) (hR : RI E F .int fo) (hf : fo ≠ none) (t : Nat) (ht1 : kd t = 12) (ht2 : AL E t) : ∀ (n : Nat) (x4 : Int32) (x5 : Int32) (σ : HS), f_X12_first_99 t n x4 x5 σ = fo → G E F 99 [(0, .ref (E.2.2.1 t)), (4, .int x4), (5, .int x5)] [] σ := by
  intro n
  induction n with
  | zero =>
    intro x4 x5 σ h
    exact absurd (h.symm.trans rfl) hf
  | succ n ih =>
    intro x4 x5 σ h
    refine g_iload hC dX12_first_99 2 rfl ?_
    refine g_bipush (v := 8) hC dX12_first_101 (by decide) ?_
    refine g_icmp_ge (tgt := 134) hC dX12_first_103 (by decide) h (fun c103 h => ?_) (fun c103 h => ?_)
    · refine g_iconst (v := 0) hC dX12_first_134 (by decide) ?_
      refine g_istore (lv' := [(5, .int 0), (0, .ref (E.2.2.1 t)), (4, .int x4)]) hC dX12_first_135 (by decide) rfl ?_
      exact g_sub [1, 2, 0] rfl (k_X12_first_137 hC hO hR hf t ht1 ht2 FU x4 0 σ h)
    · refine g_iload hC dX12_first_106 1 rfl ?_
      refine g_aload_n hC dX12_first_108 rfl 0 rfl ?_
      refine g_iload hC dX12_first_109 2 rfl ?_
      obtain ⟨q1, hq1, h⟩ := bd_of h hf
      refine g_cVI (As := [.int x5]) hC hO (c_X12_isIn _ hC.2.2.2.2.2.2.1 t ht1 ht2 x5 σ (nn_of hq1)) gc_X12_223 (xk_X12_isIn _ (Nat.le_of_ble_eq_true rfl) (Nat.le_of_ble_eq_true rfl)) cr12 ht1 ht2 rfl (Nat.le_of_ble_eq_true rfl) dX12_first_111 hq1 ?_
      refine g_if_eq (tgt := 124) hC dX12_first_114 (by decide) h (fun c114 h => ?_) (fun c114 h => ?_)
      · refine g_iconst (v := 0) hC dX12_first_124 (by decide) ?_
        exact g_sub [0, 2] rfl (k_X12_first_125 hC hO hR hf t ht1 ht2 x5 0 x4 (f_X12_first_99 t n) ih q1.2 h)
      · refine g_iconst (v := 1) hC dX12_first_117 (by decide) ?_
        refine g_iload hC dX12_first_118 2 rfl ?_
        refine g_ishl hC dX12_first_120 ?_
        refine g_goto (tgt := 125) hC dX12_first_121 (by decide) ?_
        exact g_sub [0, 2] rfl (k_X12_first_125 hC hO hR hf t ht1 ht2 x5 ((1 : Int32) <<< (x5 &&& 31)) x4 (f_X12_first_99 t n) ih q1.2 h)
set_option maxHeartbeats 4000000 in
set_option maxRecDepth 100000 in
theorem k_X12_first_50 {E : ET} {F : FT} {fo : Option (Int32 × HS)} (hC : Cx E F 6 cX12_first RX12 GT) (hO : Ro F rm_X12_first) (hR : RI E F .int fo) (hf : fo ≠ none) (σ : HS) (h : f_X12_first_50 σ = fo) : G E F 50 [] [] σ := by
    refine g_iconst (v := (-1)) hC dX12_first_50 (by decide) ?_
    exact g_iret hC hR dX12_first_51 rfl h
set_option maxHeartbeats 4000000 in
set_option maxRecDepth 100000 in
theorem k_X12_first_12 {E : ET} {F : FT} {fo : Option (Int32 × HS)} (hC : Cx E F 6 cX12_first RX12 GT) (hO : Ro F rm_X12_first) (hR : RI E F .int fo) (hf : fo ≠ none) (t : Nat) (ht1 : kd t = 12) (ht2 : AL E t) (x1 : Int32) : ∀ (n : Nat) (x2 : Int32) (x3 : Int32) (x4 : Int32) (σ : HS), f_X12_first_12 t x1 n x2 x3 x4 σ = fo → G E F 12 [(0, .ref (E.2.2.1 t)), (1, .int x1), (2, .int x2), (3, .int x3), (4, .int x4)] [] σ := by
  intro n
  induction n with
  | zero =>
    intro x2 x3 x4 σ h
    exact absurd (h.symm.trans rfl) hf
  | succ n ih =>
    intro x2 x3 x4 σ h
    refine g_iload hC dX12_first_12 4 rfl ?_
    refine g_aload_n hC dX12_first_14 rfl 0 rfl ?_
    refine g_getI (k := 20) hC cr12 ui_12 ht1 ht2 (by decide) fl_X12_193 rfl rfl dX12_first_15 ?_
    refine g_icmp_ge (tgt := 87) hC dX12_first_18 (by decide) h (fun c18 h => ?_) (fun c18 h => ?_)
    · refine g_iload_n hC dX12_first_87 rfl 3 rfl ?_
      refine g_if_le (tgt := 93) hC dX12_first_88 (by decide) h (fun c88 h => ?_) (fun c88 h => ?_)
      · refine g_iconst (v := 0) hC dX12_first_93 (by decide) ?_
        refine g_istore (lv' := [(4, .int 0), (0, .ref (E.2.2.1 t)), (1, .int x1), (2, .int x2), (3, .int x3)]) hC dX12_first_94 (by decide) rfl ?_
        refine g_iconst (v := 0) hC dX12_first_96 (by decide) ?_
        refine g_istore (lv' := [(5, .int 0), (4, .int 0), (0, .ref (E.2.2.1 t)), (1, .int x1), (2, .int x2), (3, .int x3)]) hC dX12_first_97 (by decide) rfl ?_
        exact g_sub [2, 1, 0] rfl (k_X12_first_99 hC hO hR hf t ht1 ht2 FU 0 0 σ h)
      · refine g_iconst (v := (-1)) hC dX12_first_91 (by decide) ?_
        exact g_iret hC hR dX12_first_92 rfl h
    · refine g_iload_n hC dX12_first_21 rfl 3 rfl ?_
      refine g_bipush (v := 10) hC dX12_first_22 (by decide) ?_
      refine g_irem hC dX12_first_24 (by decide) ?_
      refine g_istore (lv' := [(5, .int (x3 - x3 / 10 * 10)), (0, .ref (E.2.2.1 t)), (1, .int x1), (2, .int x2), (3, .int x3), (4, .int x4)]) hC dX12_first_25 (by decide) rfl ?_
      refine g_iload_n hC dX12_first_27 rfl 2 rfl ?_
      refine g_if_lt (tgt := 50) hC dX12_first_28 (by decide) h (fun c28 h => ?_) (fun c28 h => ?_)
      · exact g_sub [] rfl (k_X12_first_50 hC hO hR hf σ h)
      · refine g_iload hC dX12_first_31 0 rfl ?_
        refine g_aload_n hC dX12_first_33 rfl 1 rfl ?_
        refine g_getI (k := 20) hC cr12 ui_12 ht1 ht2 (by decide) fl_X12_193 rfl rfl dX12_first_34 ?_
        refine g_icmp_ge (tgt := 50) hC dX12_first_37 (by decide) h (fun c37 h => ?_) (fun c37 h => ?_)
        · exact g_sub [] rfl (k_X12_first_50 hC hO hR hf σ h)
        · refine g_iload_n hC dX12_first_40 rfl 3 rfl ?_
          refine g_iload hC dX12_first_41 0 rfl ?_
          refine g_ishr hC dX12_first_43 ?_
          refine g_iconst (v := 1) hC dX12_first_44 (by decide) ?_
          refine g_iand hC dX12_first_45 ?_
          refine g_iconst (v := 1) hC dX12_first_46 (by decide) ?_
          refine g_icmp_ne (tgt := 52) hC dX12_first_47 (by decide) h (fun c47 h => ?_) (fun c47 h => ?_)
          · refine g_iload_n hC dX12_first_52 rfl 3 rfl ?_
            refine g_iconst (v := 1) hC dX12_first_53 (by decide) ?_
            refine g_iload hC dX12_first_54 0 rfl ?_
            refine g_ishl hC dX12_first_56 ?_
            refine g_ior hC dX12_first_57 ?_
            refine g_istore_n (lv' := [(2, .int (x2 ||| ((1 : Int32) <<< ((x3 - x3 / 10 * 10) &&& 31)))), (5, .int (x3 - x3 / 10 * 10)), (0, .ref (E.2.2.1 t)), (1, .int x1), (3, .int x3), (4, .int x4)]) hC dX12_first_58 rfl (by decide) rfl ?_
            refine g_aload_n hC dX12_first_59 rfl 2 rfl ?_
            refine g_getR (cj := 15) (k := 35) hC cr12 ui_12 ht1 ht2 (by decide) fl_X12_127 rfl rfl dX12_first_60 h hf (fun a1 ea1 ka1 na1 h => ?_)
            refine g_aload_n hC dX12_first_63 rfl 2 rfl ?_
            refine g_getI (k := 20) hC cr12 ui_12 ht1 ht2 (by decide) fl_X12_193 rfl rfl dX12_first_64 ?_
            refine g_iconst (v := 1) hC dX12_first_67 (by decide) ?_
            refine g_isub hC dX12_first_68 ?_
            refine g_iload hC dX12_first_69 5 rfl ?_
            refine g_isub hC dX12_first_71 ?_
            refine g_iload hC dX12_first_72 1 rfl ?_
            refine g_i2l hC dX12_first_74 ?_
            refine g_last hC ka1 na1 dX12_first_75 h hf (fun h => ?_)
            refine g_iload_n hC dX12_first_76 rfl 4 rfl ?_
            refine g_bipush (v := 10) hC dX12_first_77 (by decide) ?_
            refine g_idiv hC dX12_first_79 (by decide) ?_
            refine g_istore_n (lv' := [(3, .int (x3 / 10)), (2, .int (x2 ||| ((1 : Int32) <<< ((x3 - x3 / 10 * 10) &&& 31)))), (5, .int (x3 - x3 / 10 * 10)), (0, .ref (E.2.2.1 t)), (1, .int x1), (4, .int x4)]) hC dX12_first_80 rfl (by decide) rfl ?_
            refine g_iinc (v := x4 + 1) (lv' := [(4, .int (x4 + 1)), (3, .int (x3 / 10)), (2, .int (x2 ||| ((1 : Int32) <<< ((x3 - x3 / 10 * 10) &&& 31)))), (5, .int (x3 - x3 / 10 * 10)), (0, .ref (E.2.2.1 t)), (1, .int x1)]) hC dX12_first_81 5 rfl rfl (by decide) rfl ?_
            refine g_goto (tgt := 12) hC dX12_first_84 (by decide) ?_
            exact g_sub [4, 5, 2, 1, 0] rfl (ih (x2 ||| ((1 : Int32) <<< ((x3 - x3 / 10 * 10) &&& 31))) (x3 / 10) (x4 + 1) (sJ σ a1 (((σ.1 t 20) - 1) - x4).toNatClampNeg ((x3 - x3 / 10 * 10).toInt64)) h)
          · exact g_sub [] rfl (k_X12_first_50 hC hO hR hf σ h)
set_option maxHeartbeats 4000000 in
set_option maxRecDepth 100000 in
theorem k_X12_first_0 {E : ET} {F : FT} {fo : Option (Int32 × HS)} (hC : Cx E F 6 cX12_first RX12 GT) (hO : Ro F rm_X12_first) (hR : RI E F .int fo) (hf : fo ≠ none) (t : Nat) (ht1 : kd t = 12) (ht2 : AL E t) (x1 : Int32) (σ : HS) (h : f_X12_first t x1 σ = fo) : G E F 0 [(0, .ref (E.2.2.1 t)), (1, .int x1)] [] σ := by
    refine g_aload_n hC dX12_first_0 rfl 0 rfl ?_
    refine g_iconst (v := 0) hC dX12_first_1 (by decide) ?_
    refine g_putI (k := 0) hC cr12 ui_12 tyX12_ok nmX12 ht1 ht2 (by decide) fl_X12_1 rfl rfl rfl rfl dX12_first_2 ?_
    refine g_iconst (v := 0) hC dX12_first_5 (by decide) ?_
    refine g_istore_n (lv' := [(2, .int 0), (0, .ref (E.2.2.1 t)), (1, .int x1)]) hC dX12_first_6 rfl (by decide) rfl ?_
    refine g_iload_n hC dX12_first_7 rfl 2 rfl ?_
    refine g_istore_n (lv' := [(3, .int x1), (2, .int 0), (0, .ref (E.2.2.1 t)), (1, .int x1)]) hC dX12_first_8 rfl (by decide) rfl ?_
    refine g_iconst (v := 0) hC dX12_first_9 (by decide) ?_
    refine g_istore (lv' := [(4, .int 0), (3, .int x1), (2, .int 0), (0, .ref (E.2.2.1 t)), (1, .int x1)]) hC dX12_first_10 (by decide) rfl ?_
    exact g_sub [3, 4, 2, 1, 0] rfl (k_X12_first_12 hC hO hR hf t ht1 ht2 x1 FU 0 x1 0 (sI σ t 0 0) h)
theorem xk_X12_first (R : Room) (h1 : 3 + 1 ≤ R.frames) (h2 : 144 ≤ R.locals) : xw R yX12_first w_X12_first GT cX12_first 6 (some .int) rm_X12_first 1 := ⟨rfl, rfl, rfl, h1, h2, ⟨by decide, by decide⟩, by decide +kernel⟩
theorem c_X12_first (E : ET) (hE : EO E) (t : Nat) (ht1 : kd t = 12) (ht2 : AL E t) (x1 : Int32) (σ : HS) (hn : f_X12_first t x1 σ ≠ none) : CoI E yX12_first w_X12_first rm_X12_first [.ref (E.2.2.1 t), .int x1] σ (f_X12_first t x1 σ) := CoI.of (lv := [(0, .ref (E.2.2.1 t)), (1, .int x1)]) hE (plainFor_of_name (by decide)) rfl (Nat.le_of_ble_eq_true rfl) rfl (fun F hC hO hR => k_X12_first_0 hC hO hR hn t ht1 ht2 x1 σ rfl)
def rm_X12_outdoes : Room := { frames := 2, cells := 0, slots := 0, locals := 72 }
set_option maxHeartbeats 4000000 in
set_option maxRecDepth 100000 in
theorem k_X12_outdoes_61 {E : ET} {F : FT} {fo : Option (Int32 × HS)} (hC : Cx E F 8 cX12_outdoes RX12 GT) (hO : Ro F rm_X12_outdoes) (hR : RI E F .boolean fo) (hf : fo ≠ none) (t : Nat) (ht1 : kd t = 12) (ht2 : AL E t) (x1 : Int32) (x2 : Int32) (x3 : Int32) (x4 : Int32) (x7 : Int32) (s0 : Int64) (s1 : Int64) (r3 : Int32 → HS → Option (Int32 × HS)) (h3 : ∀ (x4 : Int32) (σ : HS), r3 x4 σ = fo → G E F 3 [(0, .ref (E.2.2.1 t)), (1, .int x1), (2, .int x2), (3, .int x3), (4, .int x4)] [] σ) (r20 : Int64 → Int32 → HS → Option (Int32 × HS)) (h20 : ∀ (x5 : Int64) (x7 : Int32) (σ : HS), r20 x5 x7 σ = fo → G E F 20 [(0, .ref (E.2.2.1 t)), (1, .int x1), (2, .int x2), (3, .int x3), (4, .int x4), (5, .long x5), (7, .int x7)] [] σ) (σ : HS) (h : f_X12_outdoes_61 r3 r20 t x1 x2 x3 x4 x7 s0 s1 σ = fo) : G E F 61 [(0, .ref (E.2.2.1 t)), (1, .int x1), (2, .int x2), (3, .int x3), (4, .int x4), (7, .int x7)] [.long s0, .long s1] σ := by
    refine g_ladd hC dX12_outdoes_61 ?_
    refine g_lstore (lv' := [(5, .long (s1 + s0)), (0, .ref (E.2.2.1 t)), (1, .int x1), (2, .int x2), (3, .int x3), (4, .int x4), (7, .int x7)]) hC dX12_outdoes_62 (by decide) rfl ?_
    refine g_iinc (v := x7 + 1) (lv' := [(7, .int (x7 + 1)), (5, .long (s1 + s0)), (0, .ref (E.2.2.1 t)), (1, .int x1), (2, .int x2), (3, .int x3), (4, .int x4)]) hC dX12_outdoes_64 6 rfl rfl (by decide) rfl ?_
    refine g_goto (tgt := 20) hC dX12_outdoes_67 (by decide) ?_
    exact g_sub [2, 3, 4, 5, 6, 1, 0] rfl (h20 (s1 + s0) (x7 + 1) σ h)
set_option maxHeartbeats 4000000 in
set_option maxRecDepth 100000 in
theorem k_X12_outdoes_20 {E : ET} {F : FT} {fo : Option (Int32 × HS)} (hC : Cx E F 8 cX12_outdoes RX12 GT) (hO : Ro F rm_X12_outdoes) (hR : RI E F .boolean fo) (hf : fo ≠ none) (t : Nat) (ht1 : kd t = 12) (ht2 : AL E t) (x1 : Int32) (x2 : Int32) (x3 : Int32) (x4 : Int32) (r3 : Int32 → HS → Option (Int32 × HS)) (h3 : ∀ (x4 : Int32) (σ : HS), r3 x4 σ = fo → G E F 3 [(0, .ref (E.2.2.1 t)), (1, .int x1), (2, .int x2), (3, .int x3), (4, .int x4)] [] σ) : ∀ (n : Nat) (x5 : Int64) (x7 : Int32) (σ : HS), f_X12_outdoes_20 t x1 x2 x3 x4 r3 n x5 x7 σ = fo → G E F 20 [(0, .ref (E.2.2.1 t)), (1, .int x1), (2, .int x2), (3, .int x3), (4, .int x4), (5, .long x5), (7, .int x7)] [] σ := by
  intro n
  induction n with
  | zero =>
    intro x5 x7 σ h
    exact absurd (h.symm.trans rfl) hf
  | succ n ih =>
    intro x5 x7 σ h
    refine g_iload hC dX12_outdoes_20 6 rfl ?_
    refine g_aload_n hC dX12_outdoes_22 rfl 0 rfl ?_
    refine g_getI (k := 20) hC cr12 ui_12 ht1 ht2 (by decide) fl_X12_193 rfl rfl dX12_outdoes_23 ?_
    refine g_icmp_ge (tgt := 70) hC dX12_outdoes_26 (by decide) h (fun c26 h => ?_) (fun c26 h => ?_)
    · refine g_ldc2 (v := 100) hC cl_X12_240 dX12_outdoes_70 ?_
      refine g_lload hC dX12_outdoes_73 5 rfl ?_
      refine g_lmul hC dX12_outdoes_75 ?_
      refine g_iload_n hC dX12_outdoes_76 rfl 3 rfl ?_
      refine g_i2l hC dX12_outdoes_77 ?_
      refine g_aload_n hC dX12_outdoes_78 rfl 0 rfl ?_
      refine g_iconst (v := 0) hC dX12_outdoes_79 (by decide) ?_
      refine g_iload hC dX12_outdoes_80 4 rfl ?_
      obtain ⟨q1, hq1, h⟩ := bd_of h hf
      refine g_cVJ (As := [.int 0, .int x4]) hC hO (c_X12_sumAt _ hC.2.2.2.2.2.2.1 t ht1 ht2 0 x4 σ (nn_of hq1)) gc_X12_389 (xk_X12_sumAt _ (Nat.le_of_ble_eq_true rfl) (Nat.le_of_ble_eq_true rfl)) cr12 ht1 ht2 rfl (Nat.le_of_ble_eq_true rfl) dX12_outdoes_82 hq1 ?_
      refine g_lmul hC dX12_outdoes_85 ?_
      refine g_lc_ge (tgt := 92) hC dX12_outdoes_86 dX12_outdoes_87 (by decide) h (fun c86 h => ?_) (fun c86 h => ?_)
      · refine g_iinc (v := x4 + 1) (lv' := [(4, .int (x4 + 1)), (0, .ref (E.2.2.1 t)), (1, .int x1), (2, .int x2), (3, .int x3), (5, .long x5), (7, .int x7)]) hC dX12_outdoes_92 4 rfl rfl (by decide) rfl ?_
        refine g_goto (tgt := 3) hC dX12_outdoes_95 (by decide) ?_
        exact g_sub [1, 2, 3, 4, 0] rfl (h3 (x4 + 1) q1.2 h)
      · refine g_iconst (v := 0) hC dX12_outdoes_90 (by decide) ?_
        exact g_iret hC hR dX12_outdoes_91 rfl h
    · refine g_lload hC dX12_outdoes_29 5 rfl ?_
      refine g_aload_n hC dX12_outdoes_31 rfl 0 rfl ?_
      refine g_iload_n hC dX12_outdoes_32 rfl 1 rfl ?_
      refine g_iload hC dX12_outdoes_33 6 rfl ?_
      obtain ⟨q2, hq2, h⟩ := bd_of h hf
      refine g_cVI (As := [.int x1, .int x7]) hC hO (c_X12_valueOf _ hC.2.2.2.2.2.2.1 t ht1 ht2 x1 x7 σ (nn_of hq2)) gc_X12_226 (xk_X12_valueOf _ (Nat.le_of_ble_eq_true rfl) (Nat.le_of_ble_eq_true rfl)) cr12 ht1 ht2 rfl (Nat.le_of_ble_eq_true rfl) dX12_outdoes_35 hq2 ?_
      refine g_aload_n hC dX12_outdoes_38 rfl 0 rfl ?_
      refine g_iload_n hC dX12_outdoes_39 rfl 2 rfl ?_
      refine g_iload hC dX12_outdoes_40 6 rfl ?_
      obtain ⟨q3, hq3, h⟩ := bd_of h hf
      refine g_cVI (As := [.int x2, .int x7]) hC hO (c_X12_valueOf _ hC.2.2.2.2.2.2.1 t ht1 ht2 x2 x7 q2.2 (nn_of hq3)) gc_X12_226 (xk_X12_valueOf _ (Nat.le_of_ble_eq_true rfl) (Nat.le_of_ble_eq_true rfl)) cr12 ht1 ht2 rfl (Nat.le_of_ble_eq_true rfl) dX12_outdoes_42 hq3 ?_
      refine g_icmp_lt (tgt := 60) hC dX12_outdoes_45 (by decide) h (fun c45 h => ?_) (fun c45 h => ?_)
      · refine g_lconst (v := 0) hC dX12_outdoes_60 (by decide) ?_
        exact g_sub [0, 1, 2, 3, 4, 6] rfl (k_X12_outdoes_61 hC hO hR hf t ht1 ht2 x1 x2 x3 x4 x7 0 x5 r3 h3 (f_X12_outdoes_20 t x1 x2 x3 x4 r3 n) ih q3.2 h)
      · refine g_aload_n hC dX12_outdoes_48 rfl 0 rfl ?_
        refine g_iconst (v := 0) hC dX12_outdoes_49 (by decide) ?_
        refine g_iload hC dX12_outdoes_50 4 rfl ?_
        refine g_iload hC dX12_outdoes_52 6 rfl ?_
        obtain ⟨q4, hq4, h⟩ := bd_of h hf
        refine g_cVJ (As := [.int 0, .int x4, .int x7]) hC hO (c_X12_weightAt _ hC.2.2.2.2.2.2.1 t ht1 ht2 0 x4 x7 q3.2 (nn_of hq4)) gc_X12_316 (xk_X12_weightAt _ (Nat.le_of_ble_eq_true rfl) (Nat.le_of_ble_eq_true rfl)) cr12 ht1 ht2 rfl (Nat.le_of_ble_eq_true rfl) dX12_outdoes_54 hq4 ?_
        refine g_goto (tgt := 61) hC dX12_outdoes_57 (by decide) ?_
        exact g_sub [0, 1, 2, 3, 4, 6] rfl (k_X12_outdoes_61 hC hO hR hf t ht1 ht2 x1 x2 x3 x4 x7 q4.1 x5 r3 h3 (f_X12_outdoes_20 t x1 x2 x3 x4 r3 n) ih q4.2 h)
set_option maxHeartbeats 4000000 in
set_option maxRecDepth 100000 in
theorem k_X12_outdoes_3 {E : ET} {F : FT} {fo : Option (Int32 × HS)} (hC : Cx E F 8 cX12_outdoes RX12 GT) (hO : Ro F rm_X12_outdoes) (hR : RI E F .boolean fo) (hf : fo ≠ none) (t : Nat) (ht1 : kd t = 12) (ht2 : AL E t) (x1 : Int32) (x2 : Int32) (x3 : Int32) : ∀ (n : Nat) (x4 : Int32) (σ : HS), f_X12_outdoes_3 t x1 x2 x3 n x4 σ = fo → G E F 3 [(0, .ref (E.2.2.1 t)), (1, .int x1), (2, .int x2), (3, .int x3), (4, .int x4)] [] σ := by
  intro n
  induction n with
  | zero =>
    intro x4 σ h
    exact absurd (h.symm.trans rfl) hf
  | succ n ih =>
    intro x4 σ h
    refine g_iload hC dX12_outdoes_3 4 rfl ?_
    refine g_aload_n hC dX12_outdoes_5 rfl 0 rfl ?_
    refine g_getR (cj := 14) (k := 28) hC cr12 ui_12 ht1 ht2 (by decide) fl_X12_112 rfl rfl dX12_outdoes_6 h hf (fun a1 ea1 ka1 na1 h => ?_)
    refine g_iconst (v := 0) hC dX12_outdoes_9 (by decide) ?_
    refine g_iald hC ka1 na1 dX12_outdoes_10 h hf (fun h => ?_)
    refine g_icmp_ge (tgt := 98) hC dX12_outdoes_11 (by decide) h (fun c11 h => ?_) (fun c11 h => ?_)
    · refine g_iconst (v := 1) hC dX12_outdoes_98 (by decide) ?_
      exact g_iret hC hR dX12_outdoes_99 rfl h
    · refine g_lconst (v := 0) hC dX12_outdoes_14 (by decide) ?_
      refine g_lstore (lv' := [(5, .long 0), (0, .ref (E.2.2.1 t)), (1, .int x1), (2, .int x2), (3, .int x3), (4, .int x4)]) hC dX12_outdoes_15 (by decide) rfl ?_
      refine g_iconst (v := 0) hC dX12_outdoes_17 (by decide) ?_
      refine g_istore (lv' := [(7, .int 0), (5, .long 0), (0, .ref (E.2.2.1 t)), (1, .int x1), (2, .int x2), (3, .int x3), (4, .int x4)]) hC dX12_outdoes_18 (by decide) rfl ?_
      exact g_sub [2, 3, 4, 5, 6, 1, 0] rfl (k_X12_outdoes_20 hC hO hR hf t ht1 ht2 x1 x2 x3 x4 (f_X12_outdoes_3 t x1 x2 x3 n) ih FU 0 0 σ h)
set_option maxHeartbeats 4000000 in
set_option maxRecDepth 100000 in
theorem k_X12_outdoes_0 {E : ET} {F : FT} {fo : Option (Int32 × HS)} (hC : Cx E F 8 cX12_outdoes RX12 GT) (hO : Ro F rm_X12_outdoes) (hR : RI E F .boolean fo) (hf : fo ≠ none) (t : Nat) (ht1 : kd t = 12) (ht2 : AL E t) (x1 : Int32) (x2 : Int32) (x3 : Int32) (σ : HS) (h : f_X12_outdoes t x1 x2 x3 σ = fo) : G E F 0 [(0, .ref (E.2.2.1 t)), (1, .int x1), (2, .int x2), (3, .int x3)] [] σ := by
    refine g_iconst (v := 0) hC dX12_outdoes_0 (by decide) ?_
    refine g_istore (lv' := [(4, .int 0), (0, .ref (E.2.2.1 t)), (1, .int x1), (2, .int x2), (3, .int x3)]) hC dX12_outdoes_1 (by decide) rfl ?_
    exact g_sub [1, 2, 3, 4, 0] rfl (k_X12_outdoes_3 hC hO hR hf t ht1 ht2 x1 x2 x3 FU 0 σ h)
theorem xk_X12_outdoes (R : Room) (h1 : 2 + 1 ≤ R.frames) (h2 : 111 ≤ R.locals) : xw R yX12_outdoes w_X12_outdoes GT cX12_outdoes 8 (some .boolean) rm_X12_outdoes 3 := ⟨rfl, rfl, rfl, h1, h2, ⟨by decide, by decide⟩, by decide +kernel⟩
theorem c_X12_outdoes (E : ET) (hE : EO E) (t : Nat) (ht1 : kd t = 12) (ht2 : AL E t) (x1 : Int32) (x2 : Int32) (x3 : Int32) (σ : HS) (hn : f_X12_outdoes t x1 x2 x3 σ ≠ none) : CoI E yX12_outdoes w_X12_outdoes rm_X12_outdoes [.ref (E.2.2.1 t), .int x1, .int x2, .int x3] σ (f_X12_outdoes t x1 x2 x3 σ) := CoI.of (lv := [(0, .ref (E.2.2.1 t)), (1, .int x1), (2, .int x2), (3, .int x3)]) hE (plainFor_of_name (by decide)) rfl (Nat.le_of_ble_eq_true rfl) rfl (fun F hC hO hR => k_X12_outdoes_0 hC hO hR hn t ht1 ht2 x1 x2 x3 σ rfl)
def rm_X12_many : Room := { frames := 7, cells := 0, slots := 0, locals := 239 }
theorem wc_X12_outdoes : Cond.code yX12_outdoes cX12_outdoes 8 (some .boolean) ∈ GT := gtr_58 _ (List.mem_of_getElem? (i := 4) rfl)
theorem gc_X12_444 : GoodIn GT (wsV RX12 444 RX12 yX12_outdoes w_X12_outdoes) := gi_V (gtr_58 _ (List.mem_of_getElem? (i := 1) rfl)) (gtr_58 _ (List.mem_of_getElem? (i := 2) rfl)) (gtr_58 _ (List.mem_of_getElem? (i := 3) rfl)) (gtr_1 _ (List.mem_of_getElem? (i := 5) rfl)) wc_X12_outdoes
set_option maxHeartbeats 4000000 in
set_option maxRecDepth 100000 in
theorem k_X12_many_22 {E : ET} {F : FT} {fo : Option (Int32 × HS)} (hC : Cx E F 6 cX12_many RX12 GT) (hO : Ro F rm_X12_many) (hR : RI E F .int fo) (hf : fo ≠ none) (σ : HS) (h : f_X12_many_22 σ = fo) : G E F 22 [] [] σ := by
    refine g_iconst (v := (-1)) hC dX12_many_22 (by decide) ?_
    exact g_iret hC hR dX12_many_23 rfl h
set_option maxHeartbeats 4000000 in
set_option maxRecDepth 100000 in
theorem k_X12_many_119 {E : ET} {F : FT} {fo : Option (Int32 × HS)} (hC : Cx E F 6 cX12_many RX12 GT) (hO : Ro F rm_X12_many) (hR : RI E F .int fo) (hf : fo ≠ none) (t : Nat) (ht1 : kd t = 12) (ht2 : AL E t) (x1 : Int32) (x3 : Int32) (s0 : Int32) (s1 : Int32) (r28 : Int32 → Int32 → HS → Option (Int32 × HS)) (h28 : ∀ (x2 : Int32) (x3 : Int32) (σ : HS), r28 x2 x3 σ = fo → G E F 28 [(0, .ref (E.2.2.1 t)), (1, .int x1), (2, .int x2), (3, .int x3)] [] σ) (σ : HS) (h : f_X12_many_119 r28 t x1 x3 s0 s1 σ = fo) : G E F 119 [(0, .ref (E.2.2.1 t)), (1, .int x1), (3, .int x3)] [.int s0, .int s1] σ := by
    refine g_ior hC dX12_many_119 ?_
    refine g_istore_n (lv' := [(2, .int (s1 ||| s0)), (0, .ref (E.2.2.1 t)), (1, .int x1), (3, .int x3)]) hC dX12_many_120 rfl (by decide) rfl ?_
    refine g_iinc (v := x3 + 1) (lv' := [(3, .int (x3 + 1)), (2, .int (s1 ||| s0)), (0, .ref (E.2.2.1 t)), (1, .int x1)]) hC dX12_many_121 3 rfl rfl (by decide) rfl ?_
    refine g_goto (tgt := 28) hC dX12_many_124 (by decide) ?_
    exact g_sub [2, 3, 1, 0] rfl (h28 (s1 ||| s0) (x3 + 1) σ h)
set_option maxHeartbeats 4000000 in
set_option maxRecDepth 100000 in
theorem k_X12_many_98 {E : ET} {F : FT} {fo : Option (Int32 × HS)} (hC : Cx E F 6 cX12_many RX12 GT) (hO : Ro F rm_X12_many) (hR : RI E F .int fo) (hf : fo ≠ none) (t : Nat) (ht1 : kd t = 12) (ht2 : AL E t) (x1 : Int32) (x2 : Int32) (x3 : Int32) (x5 : Int32) (s0 : Int32) (r28 : Int32 → Int32 → HS → Option (Int32 × HS)) (h28 : ∀ (x2 : Int32) (x3 : Int32) (σ : HS), r28 x2 x3 σ = fo → G E F 28 [(0, .ref (E.2.2.1 t)), (1, .int x1), (2, .int x2), (3, .int x3)] [] σ) (r44 : Int32 → Int32 → HS → Option (Int32 × HS)) (h44 : ∀ (x4 : Int32) (x5 : Int32) (σ : HS), r44 x4 x5 σ = fo → G E F 44 [(0, .ref (E.2.2.1 t)), (1, .int x1), (2, .int x2), (3, .int x3), (4, .int x4), (5, .int x5)] [] σ) (σ : HS) (h : f_X12_many_98 r28 r44 t x1 x2 x3 x5 s0 σ = fo) : G E F 98 [(0, .ref (E.2.2.1 t)), (1, .int x1), (2, .int x2), (3, .int x3), (5, .int x5)] [.int s0] σ := by
    refine g_istore (lv' := [(4, .int s0), (0, .ref (E.2.2.1 t)), (1, .int x1), (2, .int x2), (3, .int x3), (5, .int x5)]) hC dX12_many_98 (by decide) rfl ?_
    refine g_iinc (v := x5 + 1) (lv' := [(5, .int (x5 + 1)), (4, .int s0), (0, .ref (E.2.2.1 t)), (1, .int x1), (2, .int x2), (3, .int x3)]) hC dX12_many_100 5 rfl rfl (by decide) rfl ?_
    refine g_goto (tgt := 44) hC dX12_many_103 (by decide) ?_
    exact g_sub [2, 3, 4, 5, 1, 0] rfl (h44 s0 (x5 + 1) σ h)
set_option maxHeartbeats 4000000 in
set_option maxRecDepth 100000 in
theorem k_X12_many_97 {E : ET} {F : FT} {fo : Option (Int32 × HS)} (hC : Cx E F 6 cX12_many RX12 GT) (hO : Ro F rm_X12_many) (hR : RI E F .int fo) (hf : fo ≠ none) (t : Nat) (ht1 : kd t = 12) (ht2 : AL E t) (x1 : Int32) (x2 : Int32) (x3 : Int32) (x5 : Int32) (r28 : Int32 → Int32 → HS → Option (Int32 × HS)) (h28 : ∀ (x2 : Int32) (x3 : Int32) (σ : HS), r28 x2 x3 σ = fo → G E F 28 [(0, .ref (E.2.2.1 t)), (1, .int x1), (2, .int x2), (3, .int x3)] [] σ) (r44 : Int32 → Int32 → HS → Option (Int32 × HS)) (h44 : ∀ (x4 : Int32) (x5 : Int32) (σ : HS), r44 x4 x5 σ = fo → G E F 44 [(0, .ref (E.2.2.1 t)), (1, .int x1), (2, .int x2), (3, .int x3), (4, .int x4), (5, .int x5)] [] σ) (σ : HS) (h : f_X12_many_97 r28 r44 t x1 x2 x3 x5 σ = fo) : G E F 97 [(0, .ref (E.2.2.1 t)), (1, .int x1), (2, .int x2), (3, .int x3), (5, .int x5)] [] σ := by
    refine g_iconst (v := 0) hC dX12_many_97 (by decide) ?_
    exact g_sub [0, 1, 2, 3, 4] rfl (k_X12_many_98 hC hO hR hf t ht1 ht2 x1 x2 x3 x5 0 r28 h28 r44 h44 σ h)
set_option maxHeartbeats 4000000 in
set_option maxRecDepth 100000 in
theorem k_X12_many_93 {E : ET} {F : FT} {fo : Option (Int32 × HS)} (hC : Cx E F 6 cX12_many RX12 GT) (hO : Ro F rm_X12_many) (hR : RI E F .int fo) (hf : fo ≠ none) (t : Nat) (ht1 : kd t = 12) (ht2 : AL E t) (x1 : Int32) (x2 : Int32) (x3 : Int32) (x5 : Int32) (r28 : Int32 → Int32 → HS → Option (Int32 × HS)) (h28 : ∀ (x2 : Int32) (x3 : Int32) (σ : HS), r28 x2 x3 σ = fo → G E F 28 [(0, .ref (E.2.2.1 t)), (1, .int x1), (2, .int x2), (3, .int x3)] [] σ) (r44 : Int32 → Int32 → HS → Option (Int32 × HS)) (h44 : ∀ (x4 : Int32) (x5 : Int32) (σ : HS), r44 x4 x5 σ = fo → G E F 44 [(0, .ref (E.2.2.1 t)), (1, .int x1), (2, .int x2), (3, .int x3), (4, .int x4), (5, .int x5)] [] σ) (σ : HS) (h : f_X12_many_93 r28 r44 t x1 x2 x3 x5 σ = fo) : G E F 93 [(0, .ref (E.2.2.1 t)), (1, .int x1), (2, .int x2), (3, .int x3), (5, .int x5)] [] σ := by
    refine g_iconst (v := 1) hC dX12_many_93 (by decide) ?_
    refine g_goto (tgt := 98) hC dX12_many_94 (by decide) ?_
    exact g_sub [0, 1, 2, 3, 4] rfl (k_X12_many_98 hC hO hR hf t ht1 ht2 x1 x2 x3 x5 1 r28 h28 r44 h44 σ h)
set_option maxHeartbeats 4000000 in
set_option maxRecDepth 100000 in
theorem k_X12_many_44 {E : ET} {F : FT} {fo : Option (Int32 × HS)} (hC : Cx E F 6 cX12_many RX12 GT) (hO : Ro F rm_X12_many) (hR : RI E F .int fo) (hf : fo ≠ none) (t : Nat) (ht1 : kd t = 12) (ht2 : AL E t) (x1 : Int32) (x2 : Int32) (x3 : Int32) (r28 : Int32 → Int32 → HS → Option (Int32 × HS)) (h28 : ∀ (x2 : Int32) (x3 : Int32) (σ : HS), r28 x2 x3 σ = fo → G E F 28 [(0, .ref (E.2.2.1 t)), (1, .int x1), (2, .int x2), (3, .int x3)] [] σ) : ∀ (n : Nat) (x4 : Int32) (x5 : Int32) (σ : HS), f_X12_many_44 t x1 x2 x3 r28 n x4 x5 σ = fo → G E F 44 [(0, .ref (E.2.2.1 t)), (1, .int x1), (2, .int x2), (3, .int x3), (4, .int x4), (5, .int x5)] [] σ := by
  intro n
  induction n with
  | zero =>
    intro x4 x5 σ h
    exact absurd (h.symm.trans rfl) hf
  | succ n ih =>
    intro x4 x5 σ h
    refine g_iload hC dX12_many_44 5 rfl ?_
    refine g_bipush (v := 8) hC dX12_many_46 (by decide) ?_
    refine g_icmp_ge (tgt := 106) hC dX12_many_48 (by decide) h (fun c48 h => ?_) (fun c48 h => ?_)
    · refine g_iload_n hC dX12_many_106 rfl 2 rfl ?_
      refine g_iload hC dX12_many_107 4 rfl ?_
      refine g_if_eq (tgt := 118) hC dX12_many_109 (by decide) h (fun c109 h => ?_) (fun c109 h => ?_)
      · refine g_iconst (v := 0) hC dX12_many_118 (by decide) ?_
        exact g_sub [0, 1, 3] rfl (k_X12_many_119 hC hO hR hf t ht1 ht2 x1 x3 0 x2 r28 h28 σ h)
      · refine g_iconst (v := 1) hC dX12_many_112 (by decide) ?_
        refine g_iload_n hC dX12_many_113 rfl 3 rfl ?_
        refine g_ishl hC dX12_many_114 ?_
        refine g_goto (tgt := 119) hC dX12_many_115 (by decide) ?_
        exact g_sub [0, 1, 3] rfl (k_X12_many_119 hC hO hR hf t ht1 ht2 x1 x3 ((1 : Int32) <<< (x3 &&& 31)) x2 r28 h28 σ h)
    · refine g_iload hC dX12_many_51 4 rfl ?_
      refine g_if_eq (tgt := 97) hC dX12_many_53 (by decide) h (fun c53 h => ?_) (fun c53 h => ?_)
      · exact g_sub [0, 1, 2, 3, 5] rfl (k_X12_many_97 hC hO hR hf t ht1 ht2 x1 x2 x3 x5 r28 h28 (f_X12_many_44 t x1 x2 x3 r28 n) ih σ h)
      · refine g_iload hC dX12_many_56 5 rfl ?_
        refine g_iload_n hC dX12_many_58 rfl 3 rfl ?_
        refine g_icmp_eq (tgt := 93) hC dX12_many_59 (by decide) h (fun c59 h => ?_) (fun c59 h => ?_)
        · exact g_sub [0, 1, 2, 3, 5] rfl (k_X12_many_93 hC hO hR hf t ht1 ht2 x1 x2 x3 x5 r28 h28 (f_X12_many_44 t x1 x2 x3 r28 n) ih σ h)
        · refine g_aload_n hC dX12_many_62 rfl 0 rfl ?_
          refine g_iload hC dX12_many_63 5 rfl ?_
          obtain ⟨q1, hq1, h⟩ := bd_of h hf
          refine g_cVI (As := [.int x5]) hC hO (c_X12_isIn _ hC.2.2.2.2.2.2.1 t ht1 ht2 x5 σ (nn_of hq1)) gc_X12_223 (xk_X12_isIn _ (Nat.le_of_ble_eq_true rfl) (Nat.le_of_ble_eq_true rfl)) cr12 ht1 ht2 rfl (Nat.le_of_ble_eq_true rfl) dX12_many_65 hq1 ?_
          refine g_if_eq (tgt := 93) hC dX12_many_68 (by decide) h (fun c68 h => ?_) (fun c68 h => ?_)
          · exact g_sub [0, 1, 2, 3, 5] rfl (k_X12_many_93 hC hO hR hf t ht1 ht2 x1 x2 x3 x5 r28 h28 (f_X12_many_44 t x1 x2 x3 r28 n) ih q1.2 h)
          · refine g_aload_n hC dX12_many_71 rfl 0 rfl ?_
            refine g_iload hC dX12_many_72 5 rfl ?_
            refine g_iload_n hC dX12_many_74 rfl 3 rfl ?_
            refine g_iload_n hC dX12_many_75 rfl 1 rfl ?_
            obtain ⟨q2, hq2, h⟩ := bd_of h hf
            refine g_cVI (As := [.int x5, .int x3, .int x1]) hC hO (c_X12_outdoes _ hC.2.2.2.2.2.2.1 t ht1 ht2 x5 x3 x1 q1.2 (nn_of hq2)) gc_X12_444 (xk_X12_outdoes _ (Nat.le_of_ble_eq_true rfl) (Nat.le_of_ble_eq_true rfl)) cr12 ht1 ht2 rfl (Nat.le_of_ble_eq_true rfl) dX12_many_76 hq2 ?_
            refine g_if_eq (tgt := 93) hC dX12_many_79 (by decide) h (fun c79 h => ?_) (fun c79 h => ?_)
            · exact g_sub [0, 1, 2, 3, 5] rfl (k_X12_many_93 hC hO hR hf t ht1 ht2 x1 x2 x3 x5 r28 h28 (f_X12_many_44 t x1 x2 x3 r28 n) ih q2.2 h)
            · refine g_aload_n hC dX12_many_82 rfl 0 rfl ?_
              refine g_iload_n hC dX12_many_83 rfl 3 rfl ?_
              refine g_iload hC dX12_many_84 5 rfl ?_
              refine g_iload_n hC dX12_many_86 rfl 1 rfl ?_
              obtain ⟨q3, hq3, h⟩ := bd_of h hf
              refine g_cVI (As := [.int x3, .int x5, .int x1]) hC hO (c_X12_outdoes _ hC.2.2.2.2.2.2.1 t ht1 ht2 x3 x5 x1 q2.2 (nn_of hq3)) gc_X12_444 (xk_X12_outdoes _ (Nat.le_of_ble_eq_true rfl) (Nat.le_of_ble_eq_true rfl)) cr12 ht1 ht2 rfl (Nat.le_of_ble_eq_true rfl) dX12_many_87 hq3 ?_
              refine g_if_eq (tgt := 97) hC dX12_many_90 (by decide) h (fun c90 h => ?_) (fun c90 h => ?_)
              · exact g_sub [0, 1, 2, 3, 5] rfl (k_X12_many_97 hC hO hR hf t ht1 ht2 x1 x2 x3 x5 r28 h28 (f_X12_many_44 t x1 x2 x3 r28 n) ih q3.2 h)
              · exact g_sub [0, 1, 2, 3, 5] rfl (k_X12_many_93 hC hO hR hf t ht1 ht2 x1 x2 x3 x5 r28 h28 (f_X12_many_44 t x1 x2 x3 r28 n) ih q3.2 h)
set_option maxHeartbeats 4000000 in
set_option maxRecDepth 100000 in
theorem k_X12_many_28 {E : ET} {F : FT} {fo : Option (Int32 × HS)} (hC : Cx E F 6 cX12_many RX12 GT) (hO : Ro F rm_X12_many) (hR : RI E F .int fo) (hf : fo ≠ none) (t : Nat) (ht1 : kd t = 12) (ht2 : AL E t) (x1 : Int32) : ∀ (n : Nat) (x2 : Int32) (x3 : Int32) (σ : HS), f_X12_many_28 t x1 n x2 x3 σ = fo → G E F 28 [(0, .ref (E.2.2.1 t)), (1, .int x1), (2, .int x2), (3, .int x3)] [] σ := by
  intro n
  induction n with
  | zero =>
    intro x2 x3 σ h
    exact absurd (h.symm.trans rfl) hf
  | succ n ih =>
    intro x2 x3 σ h
    refine g_iload_n hC dX12_many_28 rfl 3 rfl ?_
    refine g_bipush (v := 8) hC dX12_many_29 (by decide) ?_
    refine g_icmp_ge (tgt := 127) hC dX12_many_31 (by decide) h (fun c31 h => ?_) (fun c31 h => ?_)
    · refine g_iload_n hC dX12_many_127 rfl 2 rfl ?_
      exact g_iret hC hR dX12_many_128 rfl h
    · refine g_aload_n hC dX12_many_34 rfl 0 rfl ?_
      refine g_iload_n hC dX12_many_35 rfl 3 rfl ?_
      obtain ⟨q1, hq1, h⟩ := bd_of h hf
      refine g_cVI (As := [.int x3]) hC hO (c_X12_isIn _ hC.2.2.2.2.2.2.1 t ht1 ht2 x3 σ (nn_of hq1)) gc_X12_223 (xk_X12_isIn _ (Nat.le_of_ble_eq_true rfl) (Nat.le_of_ble_eq_true rfl)) cr12 ht1 ht2 rfl (Nat.le_of_ble_eq_true rfl) dX12_many_36 hq1 ?_
      refine g_istore (lv' := [(4, .int q1.1), (0, .ref (E.2.2.1 t)), (1, .int x1), (2, .int x2), (3, .int x3)]) hC dX12_many_39 (by decide) rfl ?_
      refine g_iconst (v := 0) hC dX12_many_41 (by decide) ?_
      refine g_istore (lv' := [(5, .int 0), (4, .int q1.1), (0, .ref (E.2.2.1 t)), (1, .int x1), (2, .int x2), (3, .int x3)]) hC dX12_many_42 (by decide) rfl ?_
      exact g_sub [2, 3, 4, 5, 1, 0] rfl (k_X12_many_44 hC hO hR hf t ht1 ht2 x1 x2 x3 (f_X12_many_28 t x1 n) ih FU q1.1 0 q1.2 h)
set_option maxHeartbeats 4000000 in
set_option maxRecDepth 100000 in
theorem k_X12_many_0 {E : ET} {F : FT} {fo : Option (Int32 × HS)} (hC : Cx E F 6 cX12_many RX12 GT) (hO : Ro F rm_X12_many) (hR : RI E F .int fo) (hf : fo ≠ none) (t : Nat) (ht1 : kd t = 12) (ht2 : AL E t) (x1 : Int32) (σ : HS) (h : f_X12_many t x1 σ = fo) : G E F 0 [(0, .ref (E.2.2.1 t)), (1, .int x1)] [] σ := by
    refine g_aload_n hC dX12_many_0 rfl 0 rfl ?_
    refine g_iconst (v := 0) hC dX12_many_1 (by decide) ?_
    refine g_putI (k := 0) hC cr12 ui_12 tyX12_ok nmX12 ht1 ht2 (by decide) fl_X12_1 rfl rfl rfl rfl dX12_many_2 ?_
    refine g_iload_n hC dX12_many_5 rfl 1 rfl ?_
    refine g_iconst (v := 1) hC dX12_many_6 (by decide) ?_
    refine g_bipush (v := 100) hC dX12_many_7 (by decide) ?_
    obtain ⟨q1, hq1, h⟩ := bd_of h hf
    refine g_cSI (As := [.int x1, .int 1, .int 100]) hC hO (c_X12_within _ hC.2.2.2.2.2.2.1 x1 1 100 (sI σ t 0 0) (nn_of hq1)) gc_X12_213 (xk_X12_within _ (Nat.le_of_ble_eq_true rfl) (Nat.le_of_ble_eq_true rfl)) rfl (Nat.le_of_ble_eq_true rfl) dX12_many_9 hq1 ?_
    refine g_if_eq (tgt := 22) hC dX12_many_12 (by decide) h (fun c12 h => ?_) (fun c12 h => ?_)
    · exact g_sub [] rfl (k_X12_many_22 hC hO hR hf q1.2 h)
    · refine g_aload_n hC dX12_many_15 rfl 0 rfl ?_
      obtain ⟨q2, hq2, h⟩ := bd_of h hf
      refine g_cVI (As := []) hC hO (c_X12_findNow _ hC.2.2.2.2.2.2.1 t ht1 ht2 q1.2 (nn_of hq2)) gc_X12_361 (xk_X12_findNow _ (Nat.le_of_ble_eq_true rfl) (Nat.le_of_ble_eq_true rfl)) cr12 ht1 ht2 rfl (Nat.le_of_ble_eq_true rfl) dX12_many_16 hq2 ?_
      refine g_if_ne (tgt := 24) hC dX12_many_19 (by decide) h (fun c19 h => ?_) (fun c19 h => ?_)
      · refine g_iconst (v := 0) hC dX12_many_24 (by decide) ?_
        refine g_istore_n (lv' := [(2, .int 0), (0, .ref (E.2.2.1 t)), (1, .int x1)]) hC dX12_many_25 rfl (by decide) rfl ?_
        refine g_iconst (v := 0) hC dX12_many_26 (by decide) ?_
        refine g_istore_n (lv' := [(3, .int 0), (2, .int 0), (0, .ref (E.2.2.1 t)), (1, .int x1)]) hC dX12_many_27 rfl (by decide) rfl ?_
        exact g_sub [2, 3, 1, 0] rfl (k_X12_many_28 hC hO hR hf t ht1 ht2 x1 FU 0 0 q2.2 h)
      · exact g_sub [] rfl (k_X12_many_22 hC hO hR hf q2.2 h)
theorem xk_X12_many (R : Room) (h1 : 7 + 1 ≤ R.frames) (h2 : 276 ≤ R.locals) : xw R yX12_many w_X12_many GT cX12_many 6 (some .int) rm_X12_many 1 := ⟨rfl, rfl, rfl, h1, h2, ⟨by decide, by decide⟩, by decide +kernel⟩
theorem c_X12_many (E : ET) (hE : EO E) (t : Nat) (ht1 : kd t = 12) (ht2 : AL E t) (x1 : Int32) (σ : HS) (hn : f_X12_many t x1 σ ≠ none) : CoI E yX12_many w_X12_many rm_X12_many [.ref (E.2.2.1 t), .int x1] σ (f_X12_many t x1 σ) := CoI.of (lv := [(0, .ref (E.2.2.1 t)), (1, .int x1)]) hE (plainFor_of_name (by decide)) rfl (Nat.le_of_ble_eq_true rfl) rfl (fun F hC hO hR => k_X12_many_0 hC hO hR hn t ht1 ht2 x1 σ rfl)
def rm_X12_toldMany : Room := { frames := 0, cells := 0, slots := 0, locals := 0 }
set_option maxHeartbeats 4000000 in
set_option maxRecDepth 100000 in
theorem k_X12_toldMany_25 {E : ET} {F : FT} {fo : Option (Int32 × HS)} (hC : Cx E F 3 cX12_toldMany RX12 GT) (hO : Ro F rm_X12_toldMany) (hR : RI E F .int fo) (hf : fo ≠ none) (t : Nat) (ht1 : kd t = 12) (ht2 : AL E t) (x2 : Int32) (s0 : Int32) (s1 : Int32) (r4 : Int32 → Int32 → HS → Option (Int32 × HS)) (h4 : ∀ (x1 : Int32) (x2 : Int32) (σ : HS), r4 x1 x2 σ = fo → G E F 4 [(0, .ref (E.2.2.1 t)), (1, .int x1), (2, .int x2)] [] σ) (σ : HS) (h : f_X12_toldMany_25 r4 t x2 s0 s1 σ = fo) : G E F 25 [(0, .ref (E.2.2.1 t)), (2, .int x2)] [.int s0, .int s1] σ := by
    refine g_iadd hC dX12_toldMany_25 ?_
    refine g_istore_n (lv' := [(1, .int (s1 + s0)), (0, .ref (E.2.2.1 t)), (2, .int x2)]) hC dX12_toldMany_26 rfl (by decide) rfl ?_
    refine g_iinc (v := x2 + 1) (lv' := [(2, .int (x2 + 1)), (1, .int (s1 + s0)), (0, .ref (E.2.2.1 t))]) hC dX12_toldMany_27 2 rfl rfl (by decide) rfl ?_
    refine g_goto (tgt := 4) hC dX12_toldMany_30 (by decide) ?_
    exact g_sub [2, 1, 0] rfl (h4 (s1 + s0) (x2 + 1) σ h)
set_option maxHeartbeats 4000000 in
set_option maxRecDepth 100000 in
theorem k_X12_toldMany_4 {E : ET} {F : FT} {fo : Option (Int32 × HS)} (hC : Cx E F 3 cX12_toldMany RX12 GT) (hO : Ro F rm_X12_toldMany) (hR : RI E F .int fo) (hf : fo ≠ none) (t : Nat) (ht1 : kd t = 12) (ht2 : AL E t) : ∀ (n : Nat) (x1 : Int32) (x2 : Int32) (σ : HS), f_X12_toldMany_4 t n x1 x2 σ = fo → G E F 4 [(0, .ref (E.2.2.1 t)), (1, .int x1), (2, .int x2)] [] σ := by
  intro n
  induction n with
  | zero =>
    intro x1 x2 σ h
    exact absurd (h.symm.trans rfl) hf
  | succ n ih =>
    intro x1 x2 σ h
    refine g_iload_n hC dX12_toldMany_4 rfl 2 rfl ?_
    refine g_bipush (v := 8) hC dX12_toldMany_5 (by decide) ?_
    refine g_icmp_ge (tgt := 33) hC dX12_toldMany_7 (by decide) h (fun c7 h => ?_) (fun c7 h => ?_)
    · refine g_iload_n hC dX12_toldMany_33 rfl 1 rfl ?_
      exact g_iret hC hR dX12_toldMany_34 rfl h
    · refine g_iload_n hC dX12_toldMany_10 rfl 1 rfl ?_
      refine g_aload_n hC dX12_toldMany_11 rfl 0 rfl ?_
      refine g_getR (cj := 16) (k := 21) hC cr12 ui_12 ht1 ht2 (by decide) fl_X12_100 rfl rfl dX12_toldMany_12 h hf (fun a1 ea1 ka1 na1 h => ?_)
      refine g_iload_n hC dX12_toldMany_15 rfl 2 rfl ?_
      refine g_zald hC ka1 na1 dX12_toldMany_16 h hf (fun h => ?_)
      refine g_if_eq (tgt := 24) hC dX12_toldMany_17 (by decide) h (fun c17 h => ?_) (fun c17 h => ?_)
      · refine g_iconst (v := 0) hC dX12_toldMany_24 (by decide) ?_
        exact g_sub [0, 2] rfl (k_X12_toldMany_25 hC hO hR hf t ht1 ht2 x2 0 x1 (f_X12_toldMany_4 t n) ih σ h)
      · refine g_iconst (v := 1) hC dX12_toldMany_20 (by decide) ?_
        refine g_goto (tgt := 25) hC dX12_toldMany_21 (by decide) ?_
        exact g_sub [0, 2] rfl (k_X12_toldMany_25 hC hO hR hf t ht1 ht2 x2 1 x1 (f_X12_toldMany_4 t n) ih σ h)
set_option maxHeartbeats 4000000 in
set_option maxRecDepth 100000 in
theorem k_X12_toldMany_0 {E : ET} {F : FT} {fo : Option (Int32 × HS)} (hC : Cx E F 3 cX12_toldMany RX12 GT) (hO : Ro F rm_X12_toldMany) (hR : RI E F .int fo) (hf : fo ≠ none) (t : Nat) (ht1 : kd t = 12) (ht2 : AL E t) (σ : HS) (h : f_X12_toldMany t σ = fo) : G E F 0 [(0, .ref (E.2.2.1 t))] [] σ := by
    refine g_iconst (v := 0) hC dX12_toldMany_0 (by decide) ?_
    refine g_istore_n (lv' := [(1, .int 0), (0, .ref (E.2.2.1 t))]) hC dX12_toldMany_1 rfl (by decide) rfl ?_
    refine g_iconst (v := 0) hC dX12_toldMany_2 (by decide) ?_
    refine g_istore_n (lv' := [(2, .int 0), (1, .int 0), (0, .ref (E.2.2.1 t))]) hC dX12_toldMany_3 rfl (by decide) rfl ?_
    exact g_sub [2, 1, 0] rfl (k_X12_toldMany_4 hC hO hR hf t ht1 ht2 FU 0 0 σ h)
theorem xk_X12_toldMany (R : Room) (h1 : 0 + 1 ≤ R.frames) (h2 : 34 ≤ R.locals) : xw R yX12_toldMany w_X12_toldMany GT cX12_toldMany 3 (some .int) rm_X12_toldMany 0 := ⟨rfl, rfl, rfl, h1, h2, ⟨by decide, by decide⟩, by decide +kernel⟩
theorem c_X12_toldMany (E : ET) (hE : EO E) (t : Nat) (ht1 : kd t = 12) (ht2 : AL E t) (σ : HS) (hn : f_X12_toldMany t σ ≠ none) : CoI E yX12_toldMany w_X12_toldMany rm_X12_toldMany [.ref (E.2.2.1 t)] σ (f_X12_toldMany t σ) := CoI.of (lv := [(0, .ref (E.2.2.1 t))]) hE (plainFor_of_name (by decide)) rfl (Nat.le_of_ble_eq_true rfl) rfl (fun F hC hO hR => k_X12_toldMany_0 hC hO hR hn t ht1 ht2 σ rfl)
def rm_X12_count : Room := { frames := 7, cells := 0, slots := 0, locals := 239 }
theorem wc_X12_toldMany : Cond.code yX12_toldMany cX12_toldMany 3 (some .int) ∈ GT := gtr_58 _ (List.mem_of_getElem? (i := 16) rfl)
theorem gc_X12_447 : GoodIn GT (wsV RX12 447 RX12 yX12_toldMany w_X12_toldMany) := gi_V (gtr_58 _ (List.mem_of_getElem? (i := 13) rfl)) (gtr_58 _ (List.mem_of_getElem? (i := 14) rfl)) (gtr_58 _ (List.mem_of_getElem? (i := 15) rfl)) (gtr_1 _ (List.mem_of_getElem? (i := 5) rfl)) wc_X12_toldMany
set_option maxHeartbeats 4000000 in
set_option maxRecDepth 100000 in
theorem k_X12_count_104 {E : ET} {F : FT} {fo : Option (Int32 × HS)} (hC : Cx E F 2 cX12_count RX12 GT) (hO : Ro F rm_X12_count) (hR : RI E F .int fo) (hf : fo ≠ none) (s0 : Int32) (σ : HS) (h : f_X12_count_104 s0 σ = fo) : G E F 104 [] [.int s0] σ := by
    exact g_iret hC hR dX12_count_104 rfl h
set_option maxHeartbeats 4000000 in
set_option maxRecDepth 100000 in
theorem k_X12_count_0 {E : ET} {F : FT} {fo : Option (Int32 × HS)} (hC : Cx E F 2 cX12_count RX12 GT) (hO : Ro F rm_X12_count) (hR : RI E F .int fo) (hf : fo ≠ none) (t : Nat) (ht1 : kd t = 12) (ht2 : AL E t) (x1 : Int32) (σ : HS) (h : f_X12_count t x1 σ = fo) : G E F 0 [(0, .ref (E.2.2.1 t)), (1, .int x1)] [] σ := by
    refine g_aload_n hC dX12_count_0 rfl 0 rfl ?_
    refine g_iconst (v := 0) hC dX12_count_1 (by decide) ?_
    refine g_putI (k := 0) hC cr12 ui_12 tyX12_ok nmX12 ht1 ht2 (by decide) fl_X12_1 rfl rfl rfl rfl dX12_count_2 ?_
    refine g_iload_n hC dX12_count_5 rfl 1 rfl ?_
    by_cases cs0 : x1 = 0
    · have h := ife_p cs0 h
      refine g_tin (tgt := 52) hC dX12_count_6 (by rw [cs0]; decide) (by rw [cs0]; decide) (by rw [cs0]; rfl) (by decide) ?_
      refine g_aload_n hC dX12_count_52 rfl 0 rfl ?_
      refine g_getI (k := 20) hC cr12 ui_12 ht1 ht2 (by decide) fl_X12_193 rfl rfl dX12_count_53 ?_
      exact g_iret hC hR dX12_count_56 rfl h
    have h := ife_n cs0 h
    by_cases cs1 : x1 = 1
    · have h := ife_p cs1 h
      refine g_tin (tgt := 57) hC dX12_count_6 (by rw [cs1]; decide) (by rw [cs1]; decide) (by rw [cs1]; rfl) (by decide) ?_
      refine g_aload_n hC dX12_count_57 rfl 0 rfl ?_
      obtain ⟨q1, hq1, h⟩ := bd_of h hf
      refine g_cVI (As := []) hC hO (c_X12_toldMany _ hC.2.2.2.2.2.2.1 t ht1 ht2 (sI σ t 0 0) (nn_of hq1)) gc_X12_447 (xk_X12_toldMany _ (Nat.le_of_ble_eq_true rfl) (Nat.le_of_ble_eq_true rfl)) cr12 ht1 ht2 rfl (Nat.le_of_ble_eq_true rfl) dX12_count_58 hq1 ?_
      exact g_iret hC hR dX12_count_61 rfl h
    have h := ife_n cs1 h
    by_cases cs2 : x1 = 2
    · have h := ife_p cs2 h
      refine g_tin (tgt := 62) hC dX12_count_6 (by rw [cs2]; decide) (by rw [cs2]; decide) (by rw [cs2]; rfl) (by decide) ?_
      refine g_aload_n hC dX12_count_62 rfl 0 rfl ?_
      obtain ⟨q2, hq2, h⟩ := bd_of h hf
      refine g_cVI (As := []) hC hO (c_X12_inMany _ hC.2.2.2.2.2.2.1 t ht1 ht2 (sI σ t 0 0) (nn_of hq2)) gc_X12_424 (xk_X12_inMany _ (Nat.le_of_ble_eq_true rfl) (Nat.le_of_ble_eq_true rfl)) cr12 ht1 ht2 rfl (Nat.le_of_ble_eq_true rfl) dX12_count_63 hq2 ?_
      exact g_iret hC hR dX12_count_66 rfl h
    have h := ife_n cs2 h
    by_cases cs3 : x1 = 3
    · have h := ife_p cs3 h
      refine g_tin (tgt := 67) hC dX12_count_6 (by rw [cs3]; decide) (by rw [cs3]; decide) (by rw [cs3]; rfl) (by decide) ?_
      refine g_aload_n hC dX12_count_67 rfl 0 rfl ?_
      refine g_getR (cj := 14) (k := 13) hC cr12 ui_12 ht1 ht2 (by decide) fl_X12_79 rfl rfl dX12_count_68 h hf (fun a3 ea3 ka3 na3 h => ?_)
      refine g_iconst (v := 0) hC dX12_count_71 (by decide) ?_
      refine g_iald hC ka3 na3 dX12_count_72 h hf (fun h => ?_)
      exact g_iret hC hR dX12_count_73 rfl h
    have h := ife_n cs3 h
    by_cases cs4 : x1 = 4
    · have h := ife_p cs4 h
      refine g_tin (tgt := 74) hC dX12_count_6 (by rw [cs4]; decide) (by rw [cs4]; decide) (by rw [cs4]; rfl) (by decide) ?_
      refine g_aload_n hC dX12_count_74 rfl 0 rfl ?_
      obtain ⟨q4, hq4, h⟩ := bd_of h hf
      refine g_cVI (As := []) hC hO (c_X12_heard _ hC.2.2.2.2.2.2.1 t ht1 ht2 (sI σ t 0 0) (nn_of hq4)) gc_X12_295 (xk_X12_heard _ (Nat.le_of_ble_eq_true rfl) (Nat.le_of_ble_eq_true rfl)) cr12 ht1 ht2 rfl (Nat.le_of_ble_eq_true rfl) dX12_count_75 hq4 ?_
      obtain ⟨q5, hq5, h⟩ := bd_of h hf
      refine g_cSI (As := [.int q4.1]) hC hO (c_X12_bits _ hC.2.2.2.2.2.2.1 q4.1 q4.2 (nn_of hq5)) gc_X12_411 (xk_X12_bits _ (Nat.le_of_ble_eq_true rfl) (Nat.le_of_ble_eq_true rfl)) rfl (Nat.le_of_ble_eq_true rfl) dX12_count_78 hq5 ?_
      exact g_iret hC hR dX12_count_81 rfl h
    have h := ife_n cs4 h
    by_cases cs5 : x1 = 5
    · have h := ife_p cs5 h
      refine g_tin (tgt := 82) hC dX12_count_6 (by rw [cs5]; decide) (by rw [cs5]; decide) (by rw [cs5]; rfl) (by decide) ?_
      refine g_aload_n hC dX12_count_82 rfl 0 rfl ?_
      refine g_getI (k := 2) hC cr12 ui_12 ht1 ht2 (by decide) fl_X12_11 rfl rfl dX12_count_83 ?_
      exact g_iret hC hR dX12_count_86 rfl h
    have h := ife_n cs5 h
    by_cases cs6 : x1 = 6
    · have h := ife_p cs6 h
      refine g_tin (tgt := 87) hC dX12_count_6 (by rw [cs6]; decide) (by rw [cs6]; decide) (by rw [cs6]; rfl) (by decide) ?_
      refine g_aload_n hC dX12_count_87 rfl 0 rfl ?_
      obtain ⟨q6, hq6, h⟩ := bd_of h hf
      refine g_cVI (As := []) hC hO (c_X12_findNow _ hC.2.2.2.2.2.2.1 t ht1 ht2 (sI σ t 0 0) (nn_of hq6)) gc_X12_361 (xk_X12_findNow _ (Nat.le_of_ble_eq_true rfl) (Nat.le_of_ble_eq_true rfl)) cr12 ht1 ht2 rfl (Nat.le_of_ble_eq_true rfl) dX12_count_88 hq6 ?_
      refine g_if_eq (tgt := 103) hC dX12_count_91 (by decide) h (fun c91 h => ?_) (fun c91 h => ?_)
      · refine g_iconst (v := 0) hC dX12_count_103 (by decide) ?_
        exact g_sub [] rfl (k_X12_count_104 hC hO hR hf 0 q6.2 h)
      · refine g_aload_n hC dX12_count_94 rfl 0 rfl ?_
        refine g_getR (cj := 14) (k := 28) hC cr12 ui_12 ht1 ht2 (by decide) fl_X12_112 rfl rfl dX12_count_95 h hf (fun a7 ea7 ka7 na7 h => ?_)
        refine g_iconst (v := 0) hC dX12_count_98 (by decide) ?_
        refine g_iald hC ka7 na7 dX12_count_99 h hf (fun h => ?_)
        refine g_goto (tgt := 104) hC dX12_count_100 (by decide) ?_
        exact g_sub [] rfl (k_X12_count_104 hC hO hR hf (q6.2.1 a7 (0 : Int32).toNatClampNeg) q6.2 h)
    have h := ife_n cs6 h
    by_cases cs7 : x1 = 7
    · have h := ife_p cs7 h
      refine g_tin (tgt := 105) hC dX12_count_6 (by rw [cs7]; decide) (by rw [cs7]; decide) (by rw [cs7]; rfl) (by decide) ?_
      refine g_aload_n hC dX12_count_105 rfl 0 rfl ?_
      refine g_getI (k := 24) hC cr12 ui_12 ht1 ht2 (by decide) fl_X12_210 rfl rfl dX12_count_106 ?_
      exact g_iret hC hR dX12_count_109 rfl h
    have h := ife_n cs7 h
    refine g_tout (tgt := 110) hC dX12_count_6 (sw_out 0 7 (by decide) (by decide) (fun k h1 h2 => by rcases (show k = 0 ∨ k = 1 ∨ k = 2 ∨ k = 3 ∨ k = 4 ∨ k = 5 ∨ k = 6 ∨ k = 7 by omega) with rfl | rfl | rfl | rfl | rfl | rfl | rfl | rfl <;> assumption)) (by decide) ?_
    refine g_iconst (v := (-1)) hC dX12_count_110 (by decide) ?_
    exact g_iret hC hR dX12_count_111 rfl h
theorem xk_X12_count (R : Room) (h1 : 7 + 1 ≤ R.frames) (h2 : 272 ≤ R.locals) : xw R yX12_count w_X12_count GT cX12_count 2 (some .int) rm_X12_count 1 := ⟨rfl, rfl, rfl, h1, h2, ⟨by decide, by decide⟩, by decide +kernel⟩
theorem c_X12_count (E : ET) (hE : EO E) (t : Nat) (ht1 : kd t = 12) (ht2 : AL E t) (x1 : Int32) (σ : HS) (hn : f_X12_count t x1 σ ≠ none) : CoI E yX12_count w_X12_count rm_X12_count [.ref (E.2.2.1 t), .int x1] σ (f_X12_count t x1 σ) := CoI.of (lv := [(0, .ref (E.2.2.1 t)), (1, .int x1)]) hE (plainFor_of_name (by decide)) rfl (Nat.le_of_ble_eq_true rfl) rfl (fun F hC hO hR => k_X12_count_0 hC hO hR hn t ht1 ht2 x1 σ rfl)
