def rm_X4_init_125 : Room := { frames := 1, cells := 15, slots := 172, locals := 20 }
theorem oi_X4_3 : Cond.methodLink RX4 3 objectInit ∈ GT := gtr_5 _ (List.mem_of_getElem? (i := 14) rfl)
theorem kl_X4_9 : Cond.classLink RX4 9 "[[I" ∈ GT := gtr_5 _ (List.mem_of_getElem? (i := 15) rfl)
set_option maxHeartbeats 4000000 in
set_option maxRecDepth 100000 in
theorem c_X4_init_125 (E : ET) (hE : EO E) (ht2 : AL E 125) (x1 : Nat) (hk1 : kd x1 = 9) (ha1 : AL E x1) (x2 : Nat) (hk2 : kd x2 = 10) (ha2 : AL E x2) (hb1 : ∀ j, 126 ≤ j → j < 141 → ¬ AL E j) (hb2 : ∀ j, 126 ≤ j → j < 141 → E.2.2.1 j + 126 = E.2.2.1 126 + j) (hb3 : ∀ i j, E.2.2.1 i = E.2.2.1 j → i = j) (σ : HS) (hf : f_X4_init_125 x1 x2 σ ≠ none) : CoN E 126 15 172 yX4_init w_X4_init rm_X4_init_125 [.ref (E.2.2.1 125), .ref (E.2.2.1 x1), .ref (E.2.2.1 x2)] σ (f_X4_init_125 x1 x2 σ) := by
  refine CoN.of (lv := [(0, .ref (E.2.2.1 125)), (1, .ref (E.2.2.1 x1)), (2, .ref (E.2.2.1 x2))]) (n := 126) (b := 141) (mc := 15) (ms := 172) hE (plainFor_of_name (by decide)) rfl rfl (Nat.le_of_ble_eq_true rfl) rfl hb1 hb2 hb3 ?_
  intro F hC0 hB hO hR hin hao
  generalize hfo : f_X4_init_125 x1 x2 σ = fo at hf hR
  have h := hfo
  have hC := cx_RO (k := 0) (s := 0) hC0 hB hO (by decide) (by decide) (by decide)
  refine g_aload_n hC dX4_init_0 rfl 0 rfl ?_
  refine g_obj hC hO oi_X4_3 (gtr_1 _ (List.mem_of_getElem? (i := 12) rfl)) (gtr_1 _ (List.mem_of_getElem? (i := 13) rfl)) dX4_init_1 (by decide) (by decide) ?_
  refine g_aload_n hC dX4_init_4 rfl 0 rfl ?_
  refine g_bipush (v := 8) hC dX4_init_5 (by decide) ?_
  refine g_iconst (v := 4) hC dX4_init_7 (by decide) ?_
  refine r_mna (k := 0) (s := 0) (N := 8) hC0 hB hO 126 9 40 rfl rfl rfl (by decide) (by decide) (by decide) (by decide) (by decide) (by decide) kl_X4_9 (aoI_use hao.2.1) ka_int (by decide) (by decide) (by decide) (by decide) (by decide) dX4_init_8 ?_
  have hC := cx_RO (k := 9) (s := 40) hC0 hB hO (by decide) (by decide) (by decide)
  refine g_putRF (k := 2) hC hin cr4 ui_4 tyX4_ok nmX4 (by decide) (al_R.mpr (Or.inl ht2)) (al_R.mpr (Or.inr (by decide))) (by decide) fl_X4_11 rfl rfl rfl rfl rfl dX4_init_12 ?_
  refine g_aload_n hC dX4_init_15 rfl 0 rfl ?_
  refine g_iconst (v := 4) hC dX4_init_16 (by decide) ?_
  refine r_newa (k := 9) (s := 40) (N := 4) (len := 2) hC0 hB hO 135 10 44 rfl rfl rfl (by decide) (by decide) (by decide) (fun hC h1 h2 h3 h4 h5 kk => g_newI hC (by decide) ka_int (by decide) (by decide) (by decide) (by decide) h1 h2 h3 h4 h5 dX4_init_17 kk) ?_
  have hC := cx_RO (k := 10) (s := 44) hC0 hB hO (by decide) (by decide) (by decide)
  refine g_putRF (k := 3) hC hin cr4 ui_4 tyX4_ok nmX4 (by decide) (al_R.mpr (Or.inl ht2)) (al_R.mpr (Or.inr (by decide))) (by decide) fl_X4_16 rfl rfl rfl rfl rfl dX4_init_19 ?_
  refine g_aload_n hC dX4_init_22 rfl 0 rfl ?_
  refine g_iconst (v := 4) hC dX4_init_23 (by decide) ?_
  refine r_newa (k := 10) (s := 44) (N := 4) (len := 2) hC0 hB hO 136 11 48 rfl rfl rfl (by decide) (by decide) (by decide) (fun hC h1 h2 h3 h4 h5 kk => g_newI hC (by decide) ka_int (by decide) (by decide) (by decide) (by decide) h1 h2 h3 h4 h5 dX4_init_24 kk) ?_
  have hC := cx_RO (k := 11) (s := 48) hC0 hB hO (by decide) (by decide) (by decide)
  refine g_putRF (k := 4) hC hin cr4 ui_4 tyX4_ok nmX4 (by decide) (al_R.mpr (Or.inl ht2)) (al_R.mpr (Or.inr (by decide))) (by decide) fl_X4_20 rfl rfl rfl rfl rfl dX4_init_26 ?_
  refine g_aload_n hC dX4_init_29 rfl 0 rfl ?_
  refine g_bipush (v := 8) hC dX4_init_30 (by decide) ?_
  refine r_newa (k := 11) (s := 48) (N := 8) (len := 2) hC0 hB hO 137 12 56 rfl rfl rfl (by decide) (by decide) (by decide) (fun hC h1 h2 h3 h4 h5 kk => g_newJ hC (by decide) ka_long (by decide) (by decide) (by decide) (by decide) h1 h2 h3 h4 h5 dX4_init_32 kk) ?_
  have hC := cx_RO (k := 12) (s := 56) hC0 hB hO (by decide) (by decide) (by decide)
  refine g_putRF (k := 5) hC hin cr4 ui_4 tyX4_ok nmX4 (by decide) (al_R.mpr (Or.inl ht2)) (al_R.mpr (Or.inr (by decide))) (by decide) fl_X4_23 rfl rfl rfl rfl rfl dX4_init_34 ?_
  refine g_aload_n hC dX4_init_37 rfl 0 rfl ?_
  refine g_bipush (v := 44) hC dX4_init_38 (by decide) ?_
  refine r_newa (k := 12) (s := 56) (N := 44) (len := 2) hC0 hB hO 138 13 100 rfl rfl rfl (by decide) (by decide) (by decide) (fun hC h1 h2 h3 h4 h5 kk => g_newI hC (by decide) ka_int (by decide) (by decide) (by decide) (by decide) h1 h2 h3 h4 h5 dX4_init_40 kk) ?_
  have hC := cx_RO (k := 13) (s := 100) hC0 hB hO (by decide) (by decide) (by decide)
  refine g_putRF (k := 6) hC hin cr4 ui_4 tyX4_ok nmX4 (by decide) (al_R.mpr (Or.inl ht2)) (al_R.mpr (Or.inr (by decide))) (by decide) fl_X4_27 rfl rfl rfl rfl rfl dX4_init_42 ?_
  refine g_aload_n hC dX4_init_45 rfl 0 rfl ?_
  refine g_bipush (v := 64) hC dX4_init_46 (by decide) ?_
  refine r_newa (k := 13) (s := 100) (N := 64) (len := 2) hC0 hB hO 139 14 164 rfl rfl rfl (by decide) (by decide) (by decide) (fun hC h1 h2 h3 h4 h5 kk => g_newI hC (by decide) ka_int (by decide) (by decide) (by decide) (by decide) h1 h2 h3 h4 h5 dX4_init_48 kk) ?_
  have hC := cx_RO (k := 14) (s := 164) hC0 hB hO (by decide) (by decide) (by decide)
  refine g_putRF (k := 7) hC hin cr4 ui_4 tyX4_ok nmX4 (by decide) (al_R.mpr (Or.inl ht2)) (al_R.mpr (Or.inr (by decide))) (by decide) fl_X4_30 rfl rfl rfl rfl rfl dX4_init_50 ?_
  refine g_aload_n hC dX4_init_53 rfl 0 rfl ?_
  refine g_bipush (v := 8) hC dX4_init_54 (by decide) ?_
  refine r_newa (k := 14) (s := 164) (N := 8) (len := 2) hC0 hB hO 140 15 172 rfl rfl rfl (by decide) (by decide) (by decide) (fun hC h1 h2 h3 h4 h5 kk => g_newI hC (by decide) ka_int (by decide) (by decide) (by decide) (by decide) h1 h2 h3 h4 h5 dX4_init_56 kk) ?_
  have hC := cx_RO (k := 15) (s := 172) hC0 hB hO (by decide) (by decide) (by decide)
  refine g_putRF (k := 8) hC hin cr4 ui_4 tyX4_ok nmX4 (by decide) (al_R.mpr (Or.inl ht2)) (al_R.mpr (Or.inr (by decide))) (by decide) fl_X4_33 rfl rfl rfl rfl rfl dX4_init_58 ?_
  refine g_aload_n hC dX4_init_61 rfl 0 rfl ?_
  refine g_aload_n hC dX4_init_62 rfl 1 rfl ?_
  refine g_putRF (k := 0) hC hin cr4 ui_4 tyX4_ok nmX4 (by decide) (al_R.mpr (Or.inl ht2)) (al_R.mpr (Or.inl ha1)) (by decide) fl_X4_36 rfl rfl rfl rfl rfl dX4_init_63 ?_
  refine g_aload_n hC dX4_init_66 rfl 0 rfl ?_
  refine g_aload_n hC dX4_init_67 rfl 2 rfl ?_
  refine g_putRF (k := 1) hC hin cr4 ui_4 tyX4_ok nmX4 (by decide) (al_R.mpr (Or.inl ht2)) (al_R.mpr (Or.inl ha2)) (by decide) fl_X4_40 rfl rfl rfl rfl rfl dX4_init_68 ?_
  exact r_vret hC0 hB hO hR (by decide) (by decide) (by decide) dX4_init_71 h
def rm_X5_init_141 : Room := { frames := 1, cells := 0, slots := 0, locals := 20 }
theorem oi_X5_3 : Cond.methodLink RX5 3 objectInit ∈ GT := gtr_6 _ (List.mem_of_getElem? (i := 4) rfl)
theorem fl_X5_15 : Cond.fieldLink RX5 15 "EveryMeasure$Weights" (TX10 3).2.1 (TX10 3).2.2.1 ∈ GT := gtr_6 _ (List.mem_of_getElem? (i := 6) rfl)
theorem fl_X5_22 : Cond.fieldLink RX5 22 "EveryMeasure$Weights" (TX10 0).2.1 (TX10 0).2.2.1 ∈ GT := gtr_6 _ (List.mem_of_getElem? (i := 8) rfl)
set_option maxHeartbeats 4000000 in
set_option maxRecDepth 100000 in
theorem c_X5_init_141 (E : ET) (hE : EO E) (ht2 : AL E 141) (x1 : Nat) (hk1 : kd x1 = 10) (ha1 : AL E x1) (hb1 : ∀ j, 142 ≤ j → j < 142 → ¬ AL E j) (hb2 : ∀ j, 142 ≤ j → j < 142 → E.2.2.1 j + 142 = E.2.2.1 142 + j) (hb3 : ∀ i j, E.2.2.1 i = E.2.2.1 j → i = j) (σ : HS) (hf : f_X5_init_141 x1 σ ≠ none) : CoN E 142 0 0 yX5_init w_X5_init rm_X5_init_141 [.ref (E.2.2.1 141), .ref (E.2.2.1 x1)] σ (f_X5_init_141 x1 σ) := by
  refine CoN.of (lv := [(0, .ref (E.2.2.1 141)), (1, .ref (E.2.2.1 x1))]) (n := 142) (b := 142) (mc := 0) (ms := 0) hE (plainFor_of_name (by decide)) rfl rfl (Nat.le_of_ble_eq_true rfl) rfl hb1 hb2 hb3 ?_
  intro F hC0 hB hO hR hin hao
  generalize hfo : f_X5_init_141 x1 σ = fo at hf hR
  have h := hfo
  have hC := cx_RO (k := 0) (s := 0) hC0 hB hO (by decide) (by decide) (by decide)
  refine g_aload_n hC dX5_init_0 rfl 0 rfl ?_
  refine g_obj hC hO oi_X5_3 (gtr_1 _ (List.mem_of_getElem? (i := 12) rfl)) (gtr_1 _ (List.mem_of_getElem? (i := 13) rfl)) dX5_init_1 (by decide) (by decide) ?_
  refine g_aload_n hC dX5_init_4 rfl 0 rfl ?_
  refine g_iconst (v := 0) hC dX5_init_5 (by decide) ?_
  refine g_putI (k := 2) hC cr5 ui_5 tyX5_ok nmX5 (by decide) (al_R.mpr (Or.inl ht2)) (by decide) fl_X5_9 rfl rfl rfl rfl dX5_init_6 ?_
  refine g_aload_n hC dX5_init_9 rfl 0 rfl ?_
  refine g_aload_n hC dX5_init_10 rfl 1 rfl ?_
  refine g_getR (cj := 17) (k := 3) hC cr10 ui_10 hk1 (al_R.mpr (Or.inl ha1)) (by decide) fl_X5_15 rfl rfl dX5_init_11 h hf (fun a1 ea1 ka1 na1 h => ?_)
  refine g_putRF (k := 0) hC hin cr5 ui_5 tyX5_ok nmX5 (by decide) (al_R.mpr (Or.inl ht2)) na1 (by decide) fl_X5_21 rfl rfl rfl rfl rfl dX5_init_14 ?_
  refine g_aload_n hC dX5_init_17 rfl 0 rfl ?_
  refine g_aload_n hC dX5_init_18 rfl 1 rfl ?_
  refine g_getR (cj := 18) (k := 0) hC cr10 ui_10 hk1 (al_R.mpr (Or.inl ha1)) (by decide) fl_X5_22 rfl rfl dX5_init_19 h hf (fun a2 ea2 ka2 na2 h => ?_)
  refine g_putR (k := 1) hC cr5 ui_5 tyX5_ok nmX5 (by decide) (al_R.mpr (Or.inl ht2)) na2 (by decide) fl_X5_26 rfl rfl rfl rfl dX5_init_22 ?_
  exact r_vret hC0 hB hO hR (by decide) (by decide) (by decide) dX5_init_25 h
def rm_X2_init_142 : Room := { frames := 1, cells := 1, slots := 8, locals := 20 }
theorem oi_X2_3 : Cond.methodLink RX2 3 objectInit ∈ GT := gtr_6 _ (List.mem_of_getElem? (i := 13) rfl)
set_option maxHeartbeats 4000000 in
set_option maxRecDepth 100000 in
theorem c_X2_init_142 (E : ET) (hE : EO E) (ht2 : AL E 142) (x1 : Nat) (hk1 : kd x1 = 10) (ha1 : AL E x1) (x2 : Nat) (hk2 : kd x2 = 4) (ha2 : AL E x2) (hb1 : ∀ j, 143 ≤ j → j < 144 → ¬ AL E j) (hb2 : ∀ j, 143 ≤ j → j < 144 → E.2.2.1 j + 143 = E.2.2.1 143 + j) (hb3 : ∀ i j, E.2.2.1 i = E.2.2.1 j → i = j) (σ : HS) (hf : f_X2_init_142 x1 x2 σ ≠ none) : CoN E 143 1 8 yX2_init w_X2_init rm_X2_init_142 [.ref (E.2.2.1 142), .ref (E.2.2.1 x1), .ref (E.2.2.1 x2)] σ (f_X2_init_142 x1 x2 σ) := by
  refine CoN.of (lv := [(0, .ref (E.2.2.1 142)), (1, .ref (E.2.2.1 x1)), (2, .ref (E.2.2.1 x2))]) (n := 143) (b := 144) (mc := 1) (ms := 8) hE (plainFor_of_name (by decide)) rfl rfl (Nat.le_of_ble_eq_true rfl) rfl hb1 hb2 hb3 ?_
  intro F hC0 hB hO hR hin hao
  generalize hfo : f_X2_init_142 x1 x2 σ = fo at hf hR
  have h := hfo
  have hC := cx_RO (k := 0) (s := 0) hC0 hB hO (by decide) (by decide) (by decide)
  refine g_aload_n hC dX2_init_0 rfl 0 rfl ?_
  refine g_obj hC hO oi_X2_3 (gtr_1 _ (List.mem_of_getElem? (i := 12) rfl)) (gtr_1 _ (List.mem_of_getElem? (i := 13) rfl)) dX2_init_1 (by decide) (by decide) ?_
  refine g_aload_n hC dX2_init_4 rfl 0 rfl ?_
  refine g_bipush (v := 8) hC dX2_init_5 (by decide) ?_
  refine r_newa (k := 0) (s := 0) (N := 8) (len := 2) hC0 hB hO 143 1 8 rfl rfl rfl (by decide) (by decide) (by decide) (fun hC h1 h2 h3 h4 h5 kk => g_newI hC (by decide) ka_int (by decide) (by decide) (by decide) (by decide) h1 h2 h3 h4 h5 dX2_init_7 kk) ?_
  have hC := cx_RO (k := 1) (s := 8) hC0 hB hO (by decide) (by decide) (by decide)
  refine g_putRF (k := 2) hC hin cr2 ui_2 tyX2_ok nmX2 (by decide) (al_R.mpr (Or.inl ht2)) (al_R.mpr (Or.inr (by decide))) (by decide) fl_X2_9 rfl rfl rfl rfl rfl dX2_init_9 ?_
  refine g_aload_n hC dX2_init_12 rfl 0 rfl ?_
  refine g_iconst (v := 0) hC dX2_init_13 (by decide) ?_
  refine g_putI (k := 3) hC cr2 ui_2 tyX2_ok nmX2 (by decide) (al_R.mpr (Or.inl ht2)) (by decide) fl_X2_15 rfl rfl rfl rfl dX2_init_14 ?_
  refine g_aload_n hC dX2_init_17 rfl 0 rfl ?_
  refine g_iconst (v := 0) hC dX2_init_18 (by decide) ?_
  refine g_putZ (k := 4) hC cr2 ui_2 tyX2_ok nmX2 (by decide) (al_R.mpr (Or.inl ht2)) (by decide) fl_X2_19 rfl rfl rfl rfl dX2_init_19 (by decide) ?_
  refine g_aload_n hC dX2_init_22 rfl 0 rfl ?_
  refine g_iconst (v := (-1)) hC dX2_init_23 (by decide) ?_
  refine g_putI (k := 5) hC cr2 ui_2 tyX2_ok nmX2 (by decide) (al_R.mpr (Or.inl ht2)) (by decide) fl_X2_23 rfl rfl rfl rfl dX2_init_24 ?_
  refine g_aload_n hC dX2_init_27 rfl 0 rfl ?_
  refine g_aload_n hC dX2_init_28 rfl 1 rfl ?_
  refine g_putRF (k := 0) hC hin cr2 ui_2 tyX2_ok nmX2 (by decide) (al_R.mpr (Or.inl ht2)) (al_R.mpr (Or.inl ha1)) (by decide) fl_X2_26 rfl rfl rfl rfl rfl dX2_init_29 ?_
  refine g_aload_n hC dX2_init_32 rfl 0 rfl ?_
  refine g_aload_n hC dX2_init_33 rfl 2 rfl ?_
  refine g_putRF (k := 1) hC hin cr2 ui_2 tyX2_ok nmX2 (by decide) (al_R.mpr (Or.inl ht2)) (al_R.mpr (Or.inl ha2)) (by decide) fl_X2_30 rfl rfl rfl rfl rfl dX2_init_34 ?_
  exact r_vret hC0 hB hO hR (by decide) (by decide) (by decide) dX2_init_37 h
def rm_X7_init_144 : Room := { frames := 1, cells := 0, slots := 0, locals := 20 }
theorem oi_X7_3 : Cond.methodLink RX7 3 objectInit ∈ GT := gtr_6 _ (List.mem_of_getElem? (i := 22) rfl)
set_option maxHeartbeats 4000000 in
set_option maxRecDepth 100000 in
theorem c_X7_init_144 (E : ET) (hE : EO E) (ht2 : AL E 144) (hb1 : ∀ j, 145 ≤ j → j < 145 → ¬ AL E j) (hb2 : ∀ j, 145 ≤ j → j < 145 → E.2.2.1 j + 145 = E.2.2.1 145 + j) (hb3 : ∀ i j, E.2.2.1 i = E.2.2.1 j → i = j) (σ : HS) (hf : f_X7_init_144 σ ≠ none) : CoN E 145 0 0 yX7_init w_X7_init rm_X7_init_144 [.ref (E.2.2.1 144)] σ (f_X7_init_144 σ) := by
  refine CoN.of (lv := [(0, .ref (E.2.2.1 144))]) (n := 145) (b := 145) (mc := 0) (ms := 0) hE (plainFor_of_name (by decide)) rfl rfl (Nat.le_of_ble_eq_true rfl) rfl hb1 hb2 hb3 ?_
  intro F hC0 hB hO hR hin hao
  generalize hfo : f_X7_init_144 σ = fo at hf hR
  have h := hfo
  have hC := cx_RO (k := 0) (s := 0) hC0 hB hO (by decide) (by decide) (by decide)
  refine g_aload_n hC dX7_init_0 rfl 0 rfl ?_
  refine g_obj hC hO oi_X7_3 (gtr_1 _ (List.mem_of_getElem? (i := 12) rfl)) (gtr_1 _ (List.mem_of_getElem? (i := 13) rfl)) dX7_init_1 (by decide) (by decide) ?_
  refine g_aload_n hC dX7_init_4 rfl 0 rfl ?_
  refine g_iconst (v := 0) hC dX7_init_5 (by decide) ?_
  refine g_putI (k := 0) hC cr7 ui_7 tyX7_ok nmX7 (by decide) (al_R.mpr (Or.inl ht2)) (by decide) fl_X7_9 rfl rfl rfl rfl dX7_init_6 ?_
  refine g_aload_n hC dX7_init_9 rfl 0 rfl ?_
  refine g_iconst (v := 0) hC dX7_init_10 (by decide) ?_
  refine g_putI (k := 1) hC cr7 ui_7 tyX7_ok nmX7 (by decide) (al_R.mpr (Or.inl ht2)) (by decide) fl_X7_15 rfl rfl rfl rfl dX7_init_11 ?_
  refine g_aload_n hC dX7_init_14 rfl 0 rfl ?_
  refine g_iconst (v := 0) hC dX7_init_15 (by decide) ?_
  refine g_putI (k := 2) hC cr7 ui_7 tyX7_ok nmX7 (by decide) (al_R.mpr (Or.inl ht2)) (by decide) fl_X7_18 rfl rfl rfl rfl dX7_init_16 ?_
  refine g_aload_n hC dX7_init_19 rfl 0 rfl ?_
  refine g_iconst (v := 0) hC dX7_init_20 (by decide) ?_
  refine g_putI (k := 3) hC cr7 ui_7 tyX7_ok nmX7 (by decide) (al_R.mpr (Or.inl ht2)) (by decide) fl_X7_21 rfl rfl rfl rfl dX7_init_21 ?_
  refine g_aload_n hC dX7_init_24 rfl 0 rfl ?_
  refine g_iconst (v := 0) hC dX7_init_25 (by decide) ?_
  refine g_putI (k := 4) hC cr7 ui_7 tyX7_ok nmX7 (by decide) (al_R.mpr (Or.inl ht2)) (by decide) fl_X7_24 rfl rfl rfl rfl dX7_init_26 ?_
  refine g_aload_n hC dX7_init_29 rfl 0 rfl ?_
  refine g_iconst (v := 0) hC dX7_init_30 (by decide) ?_
  refine g_putI (k := 5) hC cr7 ui_7 tyX7_ok nmX7 (by decide) (al_R.mpr (Or.inl ht2)) (by decide) fl_X7_27 rfl rfl rfl rfl dX7_init_31 ?_
  exact r_vret hC0 hB hO hR (by decide) (by decide) (by decide) dX7_init_34 h
def rm_X3_init_145 : Room := { frames := 1, cells := 0, slots := 0, locals := 20 }
theorem oi_X3_1 : Cond.methodLink RX3 1 objectInit ∈ GT := gtr_7 _ (List.mem_of_getElem? (i := 7) rfl)
set_option maxHeartbeats 4000000 in
set_option maxRecDepth 100000 in
theorem c_X3_init_145 (E : ET) (hE : EO E) (ht2 : AL E 145) (hb1 : ∀ j, 146 ≤ j → j < 146 → ¬ AL E j) (hb2 : ∀ j, 146 ≤ j → j < 146 → E.2.2.1 j + 146 = E.2.2.1 146 + j) (hb3 : ∀ i j, E.2.2.1 i = E.2.2.1 j → i = j) (σ : HS) (hf : f_X3_init_145 σ ≠ none) : CoN E 146 0 0 yX3_init w_X3_init rm_X3_init_145 [.ref (E.2.2.1 145)] σ (f_X3_init_145 σ) := by
  refine CoN.of (lv := [(0, .ref (E.2.2.1 145))]) (n := 146) (b := 146) (mc := 0) (ms := 0) hE (plainFor_of_name (by decide)) rfl rfl (Nat.le_of_ble_eq_true rfl) rfl hb1 hb2 hb3 ?_
  intro F hC0 hB hO hR hin hao
  generalize hfo : f_X3_init_145 σ = fo at hf hR
  have h := hfo
  have hC := cx_RO (k := 0) (s := 0) hC0 hB hO (by decide) (by decide) (by decide)
  refine g_aload_n hC dX3_init_0 rfl 0 rfl ?_
  refine g_obj hC hO oi_X3_1 (gtr_1 _ (List.mem_of_getElem? (i := 12) rfl)) (gtr_1 _ (List.mem_of_getElem? (i := 13) rfl)) dX3_init_1 (by decide) (by decide) ?_
  refine g_aload_n hC dX3_init_4 rfl 0 rfl ?_
  refine g_lconst (v := 0) hC dX3_init_5 (by decide) ?_
  refine g_putJ (k := 0) hC cr3 ui_3 tyX3_ok nmX3 (by decide) (al_R.mpr (Or.inl ht2)) (by decide) fl_X3_7 rfl rfl rfl rfl dX3_init_6 ?_
  refine g_aload_n hC dX3_init_9 rfl 0 rfl ?_
  refine g_lconst (v := 1) hC dX3_init_10 (by decide) ?_
  refine g_putJ (k := 1) hC cr3 ui_3 tyX3_ok nmX3 (by decide) (al_R.mpr (Or.inl ht2)) (by decide) fl_X3_13 rfl rfl rfl rfl dX3_init_11 ?_
  exact r_vret hC0 hB hO hR (by decide) (by decide) (by decide) dX3_init_14 h
def rm_X0_init_150 : Room := { frames := 1, cells := 9, slots := 84, locals := 20 }
theorem oi_X0_3 : Cond.methodLink RX0 3 objectInit ∈ GT := gtr_7 _ (List.mem_of_getElem? (i := 12) rfl)
set_option maxHeartbeats 4000000 in
set_option maxRecDepth 100000 in
theorem c_X0_init_150 (E : ET) (hE : EO E) (ht2 : AL E 150) (hb1 : ∀ j, 151 ≤ j → j < 160 → ¬ AL E j) (hb2 : ∀ j, 151 ≤ j → j < 160 → E.2.2.1 j + 151 = E.2.2.1 151 + j) (hb3 : ∀ i j, E.2.2.1 i = E.2.2.1 j → i = j) (σ : HS) (hf : f_X0_init_150 σ ≠ none) : CoN E 151 9 84 yX0_init w_X0_init rm_X0_init_150 [.ref (E.2.2.1 150)] σ (f_X0_init_150 σ) := by
  refine CoN.of (lv := [(0, .ref (E.2.2.1 150))]) (n := 151) (b := 160) (mc := 9) (ms := 84) hE (plainFor_of_name (by decide)) rfl rfl (Nat.le_of_ble_eq_true rfl) rfl hb1 hb2 hb3 ?_
  intro F hC0 hB hO hR hin hao
  generalize hfo : f_X0_init_150 σ = fo at hf hR
  have h := hfo
  have hC := cx_RO (k := 0) (s := 0) hC0 hB hO (by decide) (by decide) (by decide)
  refine g_aload_n hC dX0_init_0 rfl 0 rfl ?_
  refine g_obj hC hO oi_X0_3 (gtr_1 _ (List.mem_of_getElem? (i := 12) rfl)) (gtr_1 _ (List.mem_of_getElem? (i := 13) rfl)) dX0_init_1 (by decide) (by decide) ?_
  refine g_aload_n hC dX0_init_4 rfl 0 rfl ?_
  refine g_iconst (v := 4) hC dX0_init_5 (by decide) ?_
  refine r_newa (k := 0) (s := 0) (N := 4) (len := 2) hC0 hB hO 151 1 4 rfl rfl rfl (by decide) (by decide) (by decide) (fun hC h1 h2 h3 h4 h5 kk => g_newI hC (by decide) ka_int (by decide) (by decide) (by decide) (by decide) h1 h2 h3 h4 h5 dX0_init_6 kk) ?_
  have hC := cx_RO (k := 1) (s := 4) hC0 hB hO (by decide) (by decide) (by decide)
  refine g_putRF (k := 0) hC hin cr0 ui_0 tyX0_ok nmX0 (by decide) (al_R.mpr (Or.inl ht2)) (al_R.mpr (Or.inr (by decide))) (by decide) fl_X0_9 rfl rfl rfl rfl rfl dX0_init_8 ?_
  refine g_aload_n hC dX0_init_11 rfl 0 rfl ?_
  refine g_iconst (v := 4) hC dX0_init_12 (by decide) ?_
  refine r_newa (k := 1) (s := 4) (N := 4) (len := 2) hC0 hB hO 152 2 8 rfl rfl rfl (by decide) (by decide) (by decide) (fun hC h1 h2 h3 h4 h5 kk => g_newI hC (by decide) ka_int (by decide) (by decide) (by decide) (by decide) h1 h2 h3 h4 h5 dX0_init_13 kk) ?_
  have hC := cx_RO (k := 2) (s := 8) hC0 hB hO (by decide) (by decide) (by decide)
  refine g_putRF (k := 1) hC hin cr0 ui_0 tyX0_ok nmX0 (by decide) (al_R.mpr (Or.inl ht2)) (al_R.mpr (Or.inr (by decide))) (by decide) fl_X0_15 rfl rfl rfl rfl rfl dX0_init_15 ?_
  refine g_aload_n hC dX0_init_18 rfl 0 rfl ?_
  refine g_iconst (v := 4) hC dX0_init_19 (by decide) ?_
  refine r_newa (k := 2) (s := 8) (N := 4) (len := 2) hC0 hB hO 153 3 12 rfl rfl rfl (by decide) (by decide) (by decide) (fun hC h1 h2 h3 h4 h5 kk => g_newI hC (by decide) ka_int (by decide) (by decide) (by decide) (by decide) h1 h2 h3 h4 h5 dX0_init_20 kk) ?_
  have hC := cx_RO (k := 3) (s := 12) hC0 hB hO (by decide) (by decide) (by decide)
  refine g_putRF (k := 2) hC hin cr0 ui_0 tyX0_ok nmX0 (by decide) (al_R.mpr (Or.inl ht2)) (al_R.mpr (Or.inr (by decide))) (by decide) fl_X0_18 rfl rfl rfl rfl rfl dX0_init_22 ?_
  refine g_aload_n hC dX0_init_25 rfl 0 rfl ?_
  refine g_bipush (v := 12) hC dX0_init_26 (by decide) ?_
  refine r_newa (k := 3) (s := 12) (N := 12) (len := 2) hC0 hB hO 154 4 24 rfl rfl rfl (by decide) (by decide) (by decide) (fun hC h1 h2 h3 h4 h5 kk => g_newI hC (by decide) ka_int (by decide) (by decide) (by decide) (by decide) h1 h2 h3 h4 h5 dX0_init_28 kk) ?_
  have hC := cx_RO (k := 4) (s := 24) hC0 hB hO (by decide) (by decide) (by decide)
  refine g_putRF (k := 3) hC hin cr0 ui_0 tyX0_ok nmX0 (by decide) (al_R.mpr (Or.inl ht2)) (al_R.mpr (Or.inr (by decide))) (by decide) fl_X0_21 rfl rfl rfl rfl rfl dX0_init_30 ?_
  refine g_aload_n hC dX0_init_33 rfl 0 rfl ?_
  refine g_bipush (v := 12) hC dX0_init_34 (by decide) ?_
  refine r_newa (k := 4) (s := 24) (N := 12) (len := 2) hC0 hB hO 155 5 36 rfl rfl rfl (by decide) (by decide) (by decide) (fun hC h1 h2 h3 h4 h5 kk => g_newI hC (by decide) ka_int (by decide) (by decide) (by decide) (by decide) h1 h2 h3 h4 h5 dX0_init_36 kk) ?_
  have hC := cx_RO (k := 5) (s := 36) hC0 hB hO (by decide) (by decide) (by decide)
  refine g_putRF (k := 4) hC hin cr0 ui_0 tyX0_ok nmX0 (by decide) (al_R.mpr (Or.inl ht2)) (al_R.mpr (Or.inr (by decide))) (by decide) fl_X0_24 rfl rfl rfl rfl rfl dX0_init_38 ?_
  refine g_aload_n hC dX0_init_41 rfl 0 rfl ?_
  refine g_bipush (v := 12) hC dX0_init_42 (by decide) ?_
  refine r_newa (k := 5) (s := 36) (N := 12) (len := 2) hC0 hB hO 156 6 48 rfl rfl rfl (by decide) (by decide) (by decide) (fun hC h1 h2 h3 h4 h5 kk => g_newI hC (by decide) ka_int (by decide) (by decide) (by decide) (by decide) h1 h2 h3 h4 h5 dX0_init_44 kk) ?_
  have hC := cx_RO (k := 6) (s := 48) hC0 hB hO (by decide) (by decide) (by decide)
  refine g_putRF (k := 5) hC hin cr0 ui_0 tyX0_ok nmX0 (by decide) (al_R.mpr (Or.inl ht2)) (al_R.mpr (Or.inr (by decide))) (by decide) fl_X0_27 rfl rfl rfl rfl rfl dX0_init_46 ?_
  refine g_aload_n hC dX0_init_49 rfl 0 rfl ?_
  refine g_bipush (v := 12) hC dX0_init_50 (by decide) ?_
  refine r_newa (k := 6) (s := 48) (N := 12) (len := 2) hC0 hB hO 157 7 60 rfl rfl rfl (by decide) (by decide) (by decide) (fun hC h1 h2 h3 h4 h5 kk => g_newI hC (by decide) ka_int (by decide) (by decide) (by decide) (by decide) h1 h2 h3 h4 h5 dX0_init_52 kk) ?_
  have hC := cx_RO (k := 7) (s := 60) hC0 hB hO (by decide) (by decide) (by decide)
  refine g_putRF (k := 6) hC hin cr0 ui_0 tyX0_ok nmX0 (by decide) (al_R.mpr (Or.inl ht2)) (al_R.mpr (Or.inr (by decide))) (by decide) fl_X0_30 rfl rfl rfl rfl rfl dX0_init_54 ?_
  refine g_aload_n hC dX0_init_57 rfl 0 rfl ?_
  refine g_bipush (v := 12) hC dX0_init_58 (by decide) ?_
  refine r_newa (k := 7) (s := 60) (N := 12) (len := 2) hC0 hB hO 158 8 72 rfl rfl rfl (by decide) (by decide) (by decide) (fun hC h1 h2 h3 h4 h5 kk => g_newI hC (by decide) ka_int (by decide) (by decide) (by decide) (by decide) h1 h2 h3 h4 h5 dX0_init_60 kk) ?_
  have hC := cx_RO (k := 8) (s := 72) hC0 hB hO (by decide) (by decide) (by decide)
  refine g_putRF (k := 7) hC hin cr0 ui_0 tyX0_ok nmX0 (by decide) (al_R.mpr (Or.inl ht2)) (al_R.mpr (Or.inr (by decide))) (by decide) fl_X0_33 rfl rfl rfl rfl rfl dX0_init_62 ?_
  refine g_aload_n hC dX0_init_65 rfl 0 rfl ?_
  refine g_bipush (v := 12) hC dX0_init_66 (by decide) ?_
  refine r_newa (k := 8) (s := 72) (N := 12) (len := 2) hC0 hB hO 159 9 84 rfl rfl rfl (by decide) (by decide) (by decide) (fun hC h1 h2 h3 h4 h5 kk => g_newI hC (by decide) ka_int (by decide) (by decide) (by decide) (by decide) h1 h2 h3 h4 h5 dX0_init_68 kk) ?_
  have hC := cx_RO (k := 9) (s := 84) hC0 hB hO (by decide) (by decide) (by decide)
  refine g_putRF (k := 8) hC hin cr0 ui_0 tyX0_ok nmX0 (by decide) (al_R.mpr (Or.inl ht2)) (al_R.mpr (Or.inr (by decide))) (by decide) fl_X0_36 rfl rfl rfl rfl rfl dX0_init_70 ?_
  refine g_aload_n hC dX0_init_73 rfl 0 rfl ?_
  refine g_iconst (v := 0) hC dX0_init_74 (by decide) ?_
  refine g_putI (k := 9) hC cr0 ui_0 tyX0_ok nmX0 (by decide) (al_R.mpr (Or.inl ht2)) (by decide) fl_X0_39 rfl rfl rfl rfl dX0_init_75 ?_
  exact r_vret hC0 hB hO hR (by decide) (by decide) (by decide) dX0_init_78 h
def rm_X0_init_160 : Room := { frames := 1, cells := 9, slots := 84, locals := 20 }
set_option maxHeartbeats 4000000 in
set_option maxRecDepth 100000 in
theorem c_X0_init_160 (E : ET) (hE : EO E) (ht2 : AL E 160) (hb1 : ∀ j, 161 ≤ j → j < 170 → ¬ AL E j) (hb2 : ∀ j, 161 ≤ j → j < 170 → E.2.2.1 j + 161 = E.2.2.1 161 + j) (hb3 : ∀ i j, E.2.2.1 i = E.2.2.1 j → i = j) (σ : HS) (hf : f_X0_init_160 σ ≠ none) : CoN E 161 9 84 yX0_init w_X0_init rm_X0_init_160 [.ref (E.2.2.1 160)] σ (f_X0_init_160 σ) := by
  refine CoN.of (lv := [(0, .ref (E.2.2.1 160))]) (n := 161) (b := 170) (mc := 9) (ms := 84) hE (plainFor_of_name (by decide)) rfl rfl (Nat.le_of_ble_eq_true rfl) rfl hb1 hb2 hb3 ?_
  intro F hC0 hB hO hR hin hao
  generalize hfo : f_X0_init_160 σ = fo at hf hR
  have h := hfo
  have hC := cx_RO (k := 0) (s := 0) hC0 hB hO (by decide) (by decide) (by decide)
  refine g_aload_n hC dX0_init_0 rfl 0 rfl ?_
  refine g_obj hC hO oi_X0_3 (gtr_1 _ (List.mem_of_getElem? (i := 12) rfl)) (gtr_1 _ (List.mem_of_getElem? (i := 13) rfl)) dX0_init_1 (by decide) (by decide) ?_
  refine g_aload_n hC dX0_init_4 rfl 0 rfl ?_
  refine g_iconst (v := 4) hC dX0_init_5 (by decide) ?_
  refine r_newa (k := 0) (s := 0) (N := 4) (len := 2) hC0 hB hO 161 1 4 rfl rfl rfl (by decide) (by decide) (by decide) (fun hC h1 h2 h3 h4 h5 kk => g_newI hC (by decide) ka_int (by decide) (by decide) (by decide) (by decide) h1 h2 h3 h4 h5 dX0_init_6 kk) ?_
  have hC := cx_RO (k := 1) (s := 4) hC0 hB hO (by decide) (by decide) (by decide)
  refine g_putRF (k := 0) hC hin cr0 ui_0 tyX0_ok nmX0 (by decide) (al_R.mpr (Or.inl ht2)) (al_R.mpr (Or.inr (by decide))) (by decide) fl_X0_9 rfl rfl rfl rfl rfl dX0_init_8 ?_
  refine g_aload_n hC dX0_init_11 rfl 0 rfl ?_
  refine g_iconst (v := 4) hC dX0_init_12 (by decide) ?_
  refine r_newa (k := 1) (s := 4) (N := 4) (len := 2) hC0 hB hO 162 2 8 rfl rfl rfl (by decide) (by decide) (by decide) (fun hC h1 h2 h3 h4 h5 kk => g_newI hC (by decide) ka_int (by decide) (by decide) (by decide) (by decide) h1 h2 h3 h4 h5 dX0_init_13 kk) ?_
  have hC := cx_RO (k := 2) (s := 8) hC0 hB hO (by decide) (by decide) (by decide)
  refine g_putRF (k := 1) hC hin cr0 ui_0 tyX0_ok nmX0 (by decide) (al_R.mpr (Or.inl ht2)) (al_R.mpr (Or.inr (by decide))) (by decide) fl_X0_15 rfl rfl rfl rfl rfl dX0_init_15 ?_
  refine g_aload_n hC dX0_init_18 rfl 0 rfl ?_
  refine g_iconst (v := 4) hC dX0_init_19 (by decide) ?_
  refine r_newa (k := 2) (s := 8) (N := 4) (len := 2) hC0 hB hO 163 3 12 rfl rfl rfl (by decide) (by decide) (by decide) (fun hC h1 h2 h3 h4 h5 kk => g_newI hC (by decide) ka_int (by decide) (by decide) (by decide) (by decide) h1 h2 h3 h4 h5 dX0_init_20 kk) ?_
  have hC := cx_RO (k := 3) (s := 12) hC0 hB hO (by decide) (by decide) (by decide)
  refine g_putRF (k := 2) hC hin cr0 ui_0 tyX0_ok nmX0 (by decide) (al_R.mpr (Or.inl ht2)) (al_R.mpr (Or.inr (by decide))) (by decide) fl_X0_18 rfl rfl rfl rfl rfl dX0_init_22 ?_
  refine g_aload_n hC dX0_init_25 rfl 0 rfl ?_
  refine g_bipush (v := 12) hC dX0_init_26 (by decide) ?_
  refine r_newa (k := 3) (s := 12) (N := 12) (len := 2) hC0 hB hO 164 4 24 rfl rfl rfl (by decide) (by decide) (by decide) (fun hC h1 h2 h3 h4 h5 kk => g_newI hC (by decide) ka_int (by decide) (by decide) (by decide) (by decide) h1 h2 h3 h4 h5 dX0_init_28 kk) ?_
  have hC := cx_RO (k := 4) (s := 24) hC0 hB hO (by decide) (by decide) (by decide)
  refine g_putRF (k := 3) hC hin cr0 ui_0 tyX0_ok nmX0 (by decide) (al_R.mpr (Or.inl ht2)) (al_R.mpr (Or.inr (by decide))) (by decide) fl_X0_21 rfl rfl rfl rfl rfl dX0_init_30 ?_
  refine g_aload_n hC dX0_init_33 rfl 0 rfl ?_
  refine g_bipush (v := 12) hC dX0_init_34 (by decide) ?_
  refine r_newa (k := 4) (s := 24) (N := 12) (len := 2) hC0 hB hO 165 5 36 rfl rfl rfl (by decide) (by decide) (by decide) (fun hC h1 h2 h3 h4 h5 kk => g_newI hC (by decide) ka_int (by decide) (by decide) (by decide) (by decide) h1 h2 h3 h4 h5 dX0_init_36 kk) ?_
  have hC := cx_RO (k := 5) (s := 36) hC0 hB hO (by decide) (by decide) (by decide)
  refine g_putRF (k := 4) hC hin cr0 ui_0 tyX0_ok nmX0 (by decide) (al_R.mpr (Or.inl ht2)) (al_R.mpr (Or.inr (by decide))) (by decide) fl_X0_24 rfl rfl rfl rfl rfl dX0_init_38 ?_
  refine g_aload_n hC dX0_init_41 rfl 0 rfl ?_
  refine g_bipush (v := 12) hC dX0_init_42 (by decide) ?_
  refine r_newa (k := 5) (s := 36) (N := 12) (len := 2) hC0 hB hO 166 6 48 rfl rfl rfl (by decide) (by decide) (by decide) (fun hC h1 h2 h3 h4 h5 kk => g_newI hC (by decide) ka_int (by decide) (by decide) (by decide) (by decide) h1 h2 h3 h4 h5 dX0_init_44 kk) ?_
  have hC := cx_RO (k := 6) (s := 48) hC0 hB hO (by decide) (by decide) (by decide)
  refine g_putRF (k := 5) hC hin cr0 ui_0 tyX0_ok nmX0 (by decide) (al_R.mpr (Or.inl ht2)) (al_R.mpr (Or.inr (by decide))) (by decide) fl_X0_27 rfl rfl rfl rfl rfl dX0_init_46 ?_
  refine g_aload_n hC dX0_init_49 rfl 0 rfl ?_
  refine g_bipush (v := 12) hC dX0_init_50 (by decide) ?_
  refine r_newa (k := 6) (s := 48) (N := 12) (len := 2) hC0 hB hO 167 7 60 rfl rfl rfl (by decide) (by decide) (by decide) (fun hC h1 h2 h3 h4 h5 kk => g_newI hC (by decide) ka_int (by decide) (by decide) (by decide) (by decide) h1 h2 h3 h4 h5 dX0_init_52 kk) ?_
  have hC := cx_RO (k := 7) (s := 60) hC0 hB hO (by decide) (by decide) (by decide)
  refine g_putRF (k := 6) hC hin cr0 ui_0 tyX0_ok nmX0 (by decide) (al_R.mpr (Or.inl ht2)) (al_R.mpr (Or.inr (by decide))) (by decide) fl_X0_30 rfl rfl rfl rfl rfl dX0_init_54 ?_
  refine g_aload_n hC dX0_init_57 rfl 0 rfl ?_
  refine g_bipush (v := 12) hC dX0_init_58 (by decide) ?_
  refine r_newa (k := 7) (s := 60) (N := 12) (len := 2) hC0 hB hO 168 8 72 rfl rfl rfl (by decide) (by decide) (by decide) (fun hC h1 h2 h3 h4 h5 kk => g_newI hC (by decide) ka_int (by decide) (by decide) (by decide) (by decide) h1 h2 h3 h4 h5 dX0_init_60 kk) ?_
  have hC := cx_RO (k := 8) (s := 72) hC0 hB hO (by decide) (by decide) (by decide)
  refine g_putRF (k := 7) hC hin cr0 ui_0 tyX0_ok nmX0 (by decide) (al_R.mpr (Or.inl ht2)) (al_R.mpr (Or.inr (by decide))) (by decide) fl_X0_33 rfl rfl rfl rfl rfl dX0_init_62 ?_
  refine g_aload_n hC dX0_init_65 rfl 0 rfl ?_
  refine g_bipush (v := 12) hC dX0_init_66 (by decide) ?_
  refine r_newa (k := 8) (s := 72) (N := 12) (len := 2) hC0 hB hO 169 9 84 rfl rfl rfl (by decide) (by decide) (by decide) (fun hC h1 h2 h3 h4 h5 kk => g_newI hC (by decide) ka_int (by decide) (by decide) (by decide) (by decide) h1 h2 h3 h4 h5 dX0_init_68 kk) ?_
  have hC := cx_RO (k := 9) (s := 84) hC0 hB hO (by decide) (by decide) (by decide)
  refine g_putRF (k := 8) hC hin cr0 ui_0 tyX0_ok nmX0 (by decide) (al_R.mpr (Or.inl ht2)) (al_R.mpr (Or.inr (by decide))) (by decide) fl_X0_36 rfl rfl rfl rfl rfl dX0_init_70 ?_
  refine g_aload_n hC dX0_init_73 rfl 0 rfl ?_
  refine g_iconst (v := 0) hC dX0_init_74 (by decide) ?_
  refine g_putI (k := 9) hC cr0 ui_0 tyX0_ok nmX0 (by decide) (al_R.mpr (Or.inl ht2)) (by decide) fl_X0_39 rfl rfl rfl rfl dX0_init_75 ?_
  exact r_vret hC0 hB hO hR (by decide) (by decide) (by decide) dX0_init_78 h
