def rm_X11_init_26 : Room := { frames := 3, cells := 143, slots := 5643, locals := 66 }
theorem oi_X11_1 : Cond.methodLink RX11 1 objectInit ∈ GT := gtr_1 _ (List.mem_of_getElem? (i := 11) rfl)
theorem kl_X11_7 : Cond.classLink RX11 7 RX8 ∈ GT := gtr_1 _ (List.mem_of_getElem? (i := 14) rfl)
theorem ki_X8 : Cond.instantiable RX8 5 ∈ GT := gtr_1 _ (List.mem_of_getElem? (i := 15) rfl)
theorem wc_X8_init : Cond.code yX8_init cX8_init 1 none ∈ GT := gtr_3 _ (List.mem_of_getElem? (i := 13) rfl)
theorem kl_X11_16 : Cond.classLink RX11 16 RX6 ∈ GT := gtr_1 _ (List.mem_of_getElem? (i := 18) rfl)
theorem ki_X6 : Cond.instantiable RX6 3 ∈ GT := gtr_1 _ (List.mem_of_getElem? (i := 19) rfl)
theorem wc_X6_init : Cond.code yX6_init cX6_init 2 none ∈ GT := gtr_3 _ (List.mem_of_getElem? (i := 23) rfl)
theorem fl_X11_21 : Cond.fieldLink RX11 21 "EveryMeasure" (TX11 1).2.1 (TX11 1).2.2.1 ∈ GT := gtr_1 _ (List.mem_of_getElem? (i := 21) rfl)
theorem kl_X11_25 : Cond.classLink RX11 25 RX9 ∈ GT := gtr_1 _ (List.mem_of_getElem? (i := 22) rfl)
theorem ki_X9 : Cond.instantiable RX9 5 ∈ GT := gtr_1 _ (List.mem_of_getElem? (i := 23) rfl)
theorem wc_X9_init : Cond.code yX9_init cX9_init 1 none ∈ GT := gtr_4 _ (List.mem_of_getElem? (i := 5) rfl)
theorem kl_X11_32 : Cond.classLink RX11 32 RX10 ∈ GT := gtr_2 _ (List.mem_of_getElem? (i := 2) rfl)
theorem ki_X10 : Cond.instantiable RX10 5 ∈ GT := gtr_2 _ (List.mem_of_getElem? (i := 3) rfl)
theorem wc_X10_init : Cond.code yX10_init cX10_init 2 none ∈ GT := gtr_4 _ (List.mem_of_getElem? (i := 15) rfl)
theorem kl_X11_39 : Cond.classLink RX11 39 RX4 ∈ GT := gtr_2 _ (List.mem_of_getElem? (i := 6) rfl)
theorem ki_X4 : Cond.instantiable RX4 9 ∈ GT := gtr_2 _ (List.mem_of_getElem? (i := 7) rfl)
theorem wc_X4_init : Cond.code yX4_init cX4_init 3 none ∈ GT := gtr_5 _ (List.mem_of_getElem? (i := 13) rfl)
theorem kl_X11_48 : Cond.classLink RX11 48 RX5 ∈ GT := gtr_2 _ (List.mem_of_getElem? (i := 10) rfl)
theorem ki_X5 : Cond.instantiable RX5 3 ∈ GT := gtr_2 _ (List.mem_of_getElem? (i := 11) rfl)
theorem wc_X5_init : Cond.code yX5_init cX5_init 2 none ∈ GT := gtr_6 _ (List.mem_of_getElem? (i := 3) rfl)
theorem kl_X11_57 : Cond.classLink RX11 57 RX2 ∈ GT := gtr_2 _ (List.mem_of_getElem? (i := 14) rfl)
theorem ki_X2 : Cond.instantiable RX2 6 ∈ GT := gtr_2 _ (List.mem_of_getElem? (i := 15) rfl)
theorem wc_X2_init : Cond.code yX2_init cX2_init 3 none ∈ GT := gtr_6 _ (List.mem_of_getElem? (i := 12) rfl)
theorem kl_X11_66 : Cond.classLink RX11 66 RX7 ∈ GT := gtr_2 _ (List.mem_of_getElem? (i := 18) rfl)
theorem ki_X7 : Cond.instantiable RX7 6 ∈ GT := gtr_2 _ (List.mem_of_getElem? (i := 19) rfl)
theorem wc_X7_init : Cond.code yX7_init cX7_init 1 none ∈ GT := gtr_6 _ (List.mem_of_getElem? (i := 21) rfl)
theorem kl_X11_73 : Cond.classLink RX11 73 RX3 ∈ GT := gtr_2 _ (List.mem_of_getElem? (i := 22) rfl)
theorem ki_X3 : Cond.instantiable RX3 2 ∈ GT := gtr_2 _ (List.mem_of_getElem? (i := 23) rfl)
theorem wc_X3_init : Cond.code yX3_init cX3_init 1 none ∈ GT := gtr_7 _ (List.mem_of_getElem? (i := 6) rfl)
theorem kl_X11_93 : Cond.classLink RX11 93 RX0 ∈ GT := gtr_3 _ (List.mem_of_getElem? (i := 7) rfl)
theorem ki_X0 : Cond.instantiable RX0 10 ∈ GT := gtr_3 _ (List.mem_of_getElem? (i := 8) rfl)
theorem wc_X0_init : Cond.code yX0_init cX0_init 1 none ∈ GT := gtr_7 _ (List.mem_of_getElem? (i := 11) rfl)
theorem fl_X11_100 : Cond.fieldLink RX11 100 "EveryMeasure" (TX11 15).2.1 (TX11 15).2.2.1 ∈ GT := gtr_3 _ (List.mem_of_getElem? (i := 11) rfl)
set_option maxHeartbeats 4000000 in
set_option maxRecDepth 100000 in
theorem c_X11_init_26 (E : ET) (hE : EO E) (ht2 : AL E 26) (hb1 : ∀ j, 27 ≤ j → j < 170 → ¬ AL E j) (hb2 : ∀ j, 27 ≤ j → j < 170 → E.2.2.1 j + 27 = E.2.2.1 27 + j) (hb3 : ∀ i j, E.2.2.1 i = E.2.2.1 j → i = j) (σ : HS) (hf : f_X11_init_26 σ ≠ none) : CoN E 27 143 5643 yX11_init w_X11_init rm_X11_init_26 [.ref (E.2.2.1 26)] σ (f_X11_init_26 σ) := by
  refine CoN.of (lv := [(0, .ref (E.2.2.1 26))]) (n := 27) (b := 170) (mc := 143) (ms := 5643) hE (plainFor_of_name (by decide)) rfl rfl (Nat.le_of_ble_eq_true rfl) rfl hb1 hb2 hb3 ?_
  intro F hC0 hB hO hR hin hao
  generalize hfo : f_X11_init_26 σ = fo at hf hR
  have h := hfo
  have hC := cx_RO (k := 0) (s := 0) hC0 hB hO (by decide) (by decide) (by decide)
  refine g_aload_n hC dX11_init_0 rfl 0 rfl ?_
  refine g_obj hC hO oi_X11_1 (gtr_1 _ (List.mem_of_getElem? (i := 12) rfl)) (gtr_1 _ (List.mem_of_getElem? (i := 13) rfl)) dX11_init_1 (by decide) (by decide) ?_
  refine g_aload_n hC dX11_init_4 rfl 0 rfl ?_
  refine r_new (k := 0) (s := 0) hC0 hB hO 27 1 5 rfl rfl rfl cr8 ui_8 tyX8_ok (by decide) kl_X11_7 ki_X8 (gtr_1 _ (List.mem_of_getElem? (i := 16) rfl)) (by decide) (by decide) (by decide) (by decide) dX11_init_5 ?_
  have hC := cx_RO (k := 1) (s := 5) hC0 hB hO (by decide) (by decide) (by decide)
  refine g_dup hC dX11_init_8 rfl ?_
  obtain ⟨q1, hq1, h⟩ := bd_of h hf
  refine r_cM (na := 0) (k := 1) (s := 5) (As := []) hC0 hB hO hao 2 1005 rfl rfl rfl (c_X8_init_27 (eR E 27 1) hC.2.2.2.2.2.2.1 (al_R.mpr (Or.inr (by decide)))  (fun j h1 h2 => fr_R hB j (by omega) (by omega)) (fun j h1 h2 => by have z1 := hB.2.1 j (by omega) (by omega); have z2 := hB.2.1 28 (by omega) (by omega); show E.2.2.1 j + 28 = E.2.2.1 28 + j; omega) hB.2.2.1 (sN σ 27) (nn_of hq1)) rfl (gi_I wc_X8_init) (gtr_1 _ (List.mem_of_getElem? (i := 16) rfl)) (hao.2.2 _ (List.mem_of_getElem? (i := 0) rfl)) (gtr_3 _ (List.mem_of_getElem? (i := 12) rfl)) rfl ⟨by decide, by decide, by decide +kernel⟩ rfl rfl (by decide) (by decide) (by decide) (by decide) (by decide) rfl (Nat.le_of_ble_eq_true rfl) dX11_init_9 hq1 (by decide) ?_
  have hC := cx_RO (k := 2) (s := 1005) hC0 hB hO (by decide) (by decide) (by decide)
  refine g_putRF (k := 0) hC hin cr11 ui_11 tyX11_ok nmX11 (by decide) (al_R.mpr (Or.inl ht2)) (al_R.mpr (Or.inr (by decide))) (by decide) fl_X11_10 rfl rfl rfl rfl rfl dX11_init_12 ?_
  refine g_aload_n hC dX11_init_15 rfl 0 rfl ?_
  refine r_new (k := 2) (s := 1005) hC0 hB hO 29 3 1008 rfl rfl rfl cr6 ui_6 tyX6_ok (by decide) kl_X11_16 ki_X6 (gtr_1 _ (List.mem_of_getElem? (i := 20) rfl)) (by decide) (by decide) (by decide) (by decide) dX11_init_16 ?_
  have hC := cx_RO (k := 3) (s := 1008) hC0 hB hO (by decide) (by decide) (by decide)
  refine g_dup hC dX11_init_19 rfl ?_
  refine g_aload_n hC dX11_init_20 rfl 0 rfl ?_
  refine g_getR (cj := 8) (k := 0) hC cr11 ui_11 (by decide) (al_R.mpr (Or.inl ht2)) (by decide) fl_X11_10 rfl rfl dX11_init_21 h hf (fun a2 ea2 ka2 na2 h => ?_)
  obtain ⟨q3, hq3, h⟩ := bd_of h hf
  refine r_cN (na := 1) (k := 3) (s := 1008) (As := [.ref (E.2.2.1 a2)]) hC0 hB hO hao 3 1008 rfl rfl rfl (c_X6_init_29 (eR E 27 3) hC.2.2.2.2.2.2.1 (al_R.mpr (Or.inr (by decide))) a2 ka2 na2 (fun j h1 h2 => fr_R hB j (by omega) (by omega)) (fun j h1 h2 => by have z1 := hB.2.1 j (by omega) (by omega); have z2 := hB.2.1 30 (by omega) (by omega); show E.2.2.1 j + 30 = E.2.2.1 30 + j; omega) hB.2.2.1 (sN (sR q1 26 0 (some 27)) 29) (nn_of hq3)) rfl (gi_I wc_X6_init) (gtr_1 _ (List.mem_of_getElem? (i := 20) rfl)) (gtr_3 _ (List.mem_of_getElem? (i := 21) rfl)) (gtr_3 _ (List.mem_of_getElem? (i := 22) rfl)) rfl ⟨by decide, by decide, by decide +kernel⟩ rfl rfl (by decide) (by decide) (by decide) (by decide) (by decide) rfl (Nat.le_of_ble_eq_true rfl) dX11_init_24 hq3 (by decide) ?_
  have hC := cx_RO (k := 3) (s := 1008) hC0 hB hO (by decide) (by decide) (by decide)
  refine g_putRF (k := 1) hC hin cr11 ui_11 tyX11_ok nmX11 (by decide) (al_R.mpr (Or.inl ht2)) (al_R.mpr (Or.inr (by decide))) (by decide) fl_X11_21 rfl rfl rfl rfl rfl dX11_init_27 ?_
  refine g_aload_n hC dX11_init_30 rfl 0 rfl ?_
  refine r_new (k := 3) (s := 1008) hC0 hB hO 30 4 1013 rfl rfl rfl cr9 ui_9 tyX9_ok (by decide) kl_X11_25 ki_X9 (gtr_2 _ (List.mem_of_getElem? (i := 0) rfl)) (by decide) (by decide) (by decide) (by decide) dX11_init_31 ?_
  have hC := cx_RO (k := 4) (s := 1013) hC0 hB hO (by decide) (by decide) (by decide)
  refine g_dup hC dX11_init_34 rfl ?_
  obtain ⟨q4, hq4, h⟩ := bd_of h hf
  refine r_cM (na := 0) (k := 4) (s := 1013) (As := []) hC0 hB hO hao 23 1101 rfl rfl rfl (c_X9_init_30 (eR E 27 4) hC.2.2.2.2.2.2.1 (al_R.mpr (Or.inr (by decide)))  (fun j h1 h2 => fr_R hB j (by omega) (by omega)) (fun j h1 h2 => by have z1 := hB.2.1 j (by omega) (by omega); have z2 := hB.2.1 31 (by omega) (by omega); show E.2.2.1 j + 31 = E.2.2.1 31 + j; omega) hB.2.2.1 (sN (sR q3 26 1 (some 29)) 30) (nn_of hq4)) rfl (gi_I wc_X9_init) (gtr_2 _ (List.mem_of_getElem? (i := 0) rfl)) (hao.2.2 _ (List.mem_of_getElem? (i := 1) rfl)) (gtr_4 _ (List.mem_of_getElem? (i := 4) rfl)) rfl ⟨by decide, by decide, by decide +kernel⟩ rfl rfl (by decide) (by decide) (by decide) (by decide) (by decide) rfl (Nat.le_of_ble_eq_true rfl) dX11_init_35 hq4 (by decide) ?_
  have hC := cx_RO (k := 23) (s := 1101) hC0 hB hO (by decide) (by decide) (by decide)
  refine g_putRF (k := 2) hC hin cr11 ui_11 tyX11_ok nmX11 (by decide) (al_R.mpr (Or.inl ht2)) (al_R.mpr (Or.inr (by decide))) (by decide) fl_X11_28 rfl rfl rfl rfl rfl dX11_init_38 ?_
  refine g_aload_n hC dX11_init_41 rfl 0 rfl ?_
  refine r_new (k := 23) (s := 1101) hC0 hB hO 50 24 1106 rfl rfl rfl cr10 ui_10 tyX10_ok (by decide) kl_X11_32 ki_X10 (gtr_2 _ (List.mem_of_getElem? (i := 4) rfl)) (by decide) (by decide) (by decide) (by decide) dX11_init_42 ?_
  have hC := cx_RO (k := 24) (s := 1106) hC0 hB hO (by decide) (by decide) (by decide)
  refine g_dup hC dX11_init_45 rfl ?_
  obtain ⟨q5, hq5, h⟩ := bd_of h hf
  refine r_cN (na := 0) (k := 24) (s := 1106) (As := []) hC0 hB hO hao 98 5229 rfl rfl rfl (c_X10_init_50 (eR E 27 24) hC.2.2.2.2.2.2.1 (al_R.mpr (Or.inr (by decide)))  (fun j h1 h2 => fr_R hB j (by omega) (by omega)) (fun j h1 h2 => by have z1 := hB.2.1 j (by omega) (by omega); have z2 := hB.2.1 51 (by omega) (by omega); show E.2.2.1 j + 51 = E.2.2.1 51 + j; omega) hB.2.2.1 (sN (sR q4 26 2 (some 30)) 50) (nn_of hq5)) rfl (gi_I wc_X10_init) (gtr_2 _ (List.mem_of_getElem? (i := 4) rfl)) (gtr_4 _ (List.mem_of_getElem? (i := 13) rfl)) (gtr_4 _ (List.mem_of_getElem? (i := 14) rfl)) rfl ⟨by decide, by decide, by decide +kernel⟩ rfl rfl (by decide) (by decide) (by decide) (by decide) (by decide) rfl (Nat.le_of_ble_eq_true rfl) dX11_init_46 hq5 (by decide) ?_
  have hC := cx_RO (k := 98) (s := 5229) hC0 hB hO (by decide) (by decide) (by decide)
  refine g_putRF (k := 3) hC hin cr11 ui_11 tyX11_ok nmX11 (by decide) (al_R.mpr (Or.inl ht2)) (al_R.mpr (Or.inr (by decide))) (by decide) fl_X11_35 rfl rfl rfl rfl rfl dX11_init_49 ?_
  refine g_aload_n hC dX11_init_52 rfl 0 rfl ?_
  refine r_new (k := 98) (s := 5229) hC0 hB hO 125 99 5238 rfl rfl rfl cr4 ui_4 tyX4_ok (by decide) kl_X11_39 ki_X4 (gtr_2 _ (List.mem_of_getElem? (i := 8) rfl)) (by decide) (by decide) (by decide) (by decide) dX11_init_53 ?_
  have hC := cx_RO (k := 99) (s := 5238) hC0 hB hO (by decide) (by decide) (by decide)
  refine g_dup hC dX11_init_56 rfl ?_
  refine g_aload_n hC dX11_init_57 rfl 0 rfl ?_
  refine g_getR (cj := 9) (k := 2) hC cr11 ui_11 (by decide) (al_R.mpr (Or.inl ht2)) (by decide) fl_X11_28 rfl rfl dX11_init_58 h hf (fun a6 ea6 ka6 na6 h => ?_)
  refine g_aload_n hC dX11_init_61 rfl 0 rfl ?_
  refine g_getR (cj := 10) (k := 3) hC cr11 ui_11 (by decide) (al_R.mpr (Or.inl ht2)) (by decide) fl_X11_35 rfl rfl dX11_init_62 h hf (fun a7 ea7 ka7 na7 h => ?_)
  obtain ⟨q8, hq8, h⟩ := bd_of h hf
  refine r_cN (na := 2) (k := 99) (s := 5238) (As := [.ref (E.2.2.1 a6), .ref (E.2.2.1 a7)]) hC0 hB hO hao 114 5410 rfl rfl rfl (c_X4_init_125 (eR E 27 99) hC.2.2.2.2.2.2.1 (al_R.mpr (Or.inr (by decide))) a6 ka6 na6 a7 ka7 na7 (fun j h1 h2 => fr_R hB j (by omega) (by omega)) (fun j h1 h2 => by have z1 := hB.2.1 j (by omega) (by omega); have z2 := hB.2.1 126 (by omega) (by omega); show E.2.2.1 j + 126 = E.2.2.1 126 + j; omega) hB.2.2.1 (sN (sR q5 26 3 (some 50)) 125) (nn_of hq8)) rfl (gi_I wc_X4_init) (gtr_2 _ (List.mem_of_getElem? (i := 8) rfl)) (gtr_5 _ (List.mem_of_getElem? (i := 11) rfl)) (gtr_5 _ (List.mem_of_getElem? (i := 12) rfl)) rfl ⟨by decide, by decide, by decide +kernel⟩ rfl rfl (by decide) (by decide) (by decide) (by decide) (by decide) rfl (Nat.le_of_ble_eq_true rfl) dX11_init_65 hq8 (by decide) ?_
  have hC := cx_RO (k := 114) (s := 5410) hC0 hB hO (by decide) (by decide) (by decide)
  refine g_putRF (k := 4) hC hin cr11 ui_11 tyX11_ok nmX11 (by decide) (al_R.mpr (Or.inl ht2)) (al_R.mpr (Or.inr (by decide))) (by decide) fl_X11_44 rfl rfl rfl rfl rfl dX11_init_68 ?_
  refine g_aload_n hC dX11_init_71 rfl 0 rfl ?_
  refine r_new (k := 114) (s := 5410) hC0 hB hO 141 115 5413 rfl rfl rfl cr5 ui_5 tyX5_ok (by decide) kl_X11_48 ki_X5 (gtr_2 _ (List.mem_of_getElem? (i := 12) rfl)) (by decide) (by decide) (by decide) (by decide) dX11_init_72 ?_
  have hC := cx_RO (k := 115) (s := 5413) hC0 hB hO (by decide) (by decide) (by decide)
  refine g_dup hC dX11_init_75 rfl ?_
  refine g_aload_n hC dX11_init_76 rfl 0 rfl ?_
  refine g_getR (cj := 10) (k := 3) hC cr11 ui_11 (by decide) (al_R.mpr (Or.inl ht2)) (by decide) fl_X11_35 rfl rfl dX11_init_77 h hf (fun a9 ea9 ka9 na9 h => ?_)
  obtain ⟨q10, hq10, h⟩ := bd_of h hf
  refine r_cN (na := 1) (k := 115) (s := 5413) (As := [.ref (E.2.2.1 a9)]) hC0 hB hO hao 115 5413 rfl rfl rfl (c_X5_init_141 (eR E 27 115) hC.2.2.2.2.2.2.1 (al_R.mpr (Or.inr (by decide))) a9 ka9 na9 (fun j h1 h2 => fr_R hB j (by omega) (by omega)) (fun j h1 h2 => by have z1 := hB.2.1 j (by omega) (by omega); have z2 := hB.2.1 142 (by omega) (by omega); show E.2.2.1 j + 142 = E.2.2.1 142 + j; omega) hB.2.2.1 (sN (sR q8 26 4 (some 125)) 141) (nn_of hq10)) rfl (gi_I wc_X5_init) (gtr_2 _ (List.mem_of_getElem? (i := 12) rfl)) (gtr_6 _ (List.mem_of_getElem? (i := 1) rfl)) (gtr_6 _ (List.mem_of_getElem? (i := 2) rfl)) rfl ⟨by decide, by decide, by decide +kernel⟩ rfl rfl (by decide) (by decide) (by decide) (by decide) (by decide) rfl (Nat.le_of_ble_eq_true rfl) dX11_init_80 hq10 (by decide) ?_
  have hC := cx_RO (k := 115) (s := 5413) hC0 hB hO (by decide) (by decide) (by decide)
  refine g_putRF (k := 5) hC hin cr11 ui_11 tyX11_ok nmX11 (by decide) (al_R.mpr (Or.inl ht2)) (al_R.mpr (Or.inr (by decide))) (by decide) fl_X11_53 rfl rfl rfl rfl rfl dX11_init_83 ?_
  refine g_aload_n hC dX11_init_86 rfl 0 rfl ?_
  refine r_new (k := 115) (s := 5413) hC0 hB hO 142 116 5419 rfl rfl rfl cr2 ui_2 tyX2_ok (by decide) kl_X11_57 ki_X2 (gtr_2 _ (List.mem_of_getElem? (i := 16) rfl)) (by decide) (by decide) (by decide) (by decide) dX11_init_87 ?_
  have hC := cx_RO (k := 116) (s := 5419) hC0 hB hO (by decide) (by decide) (by decide)
  refine g_dup hC dX11_init_90 rfl ?_
  refine g_aload_n hC dX11_init_91 rfl 0 rfl ?_
  refine g_getR (cj := 10) (k := 3) hC cr11 ui_11 (by decide) (al_R.mpr (Or.inl ht2)) (by decide) fl_X11_35 rfl rfl dX11_init_92 h hf (fun a11 ea11 ka11 na11 h => ?_)
  refine g_aload_n hC dX11_init_95 rfl 0 rfl ?_
  refine g_getR (cj := 4) (k := 4) hC cr11 ui_11 (by decide) (al_R.mpr (Or.inl ht2)) (by decide) fl_X11_44 rfl rfl dX11_init_96 h hf (fun a12 ea12 ka12 na12 h => ?_)
  obtain ⟨q13, hq13, h⟩ := bd_of h hf
  refine r_cN (na := 2) (k := 116) (s := 5419) (As := [.ref (E.2.2.1 a11), .ref (E.2.2.1 a12)]) hC0 hB hO hao 117 5427 rfl rfl rfl (c_X2_init_142 (eR E 27 116) hC.2.2.2.2.2.2.1 (al_R.mpr (Or.inr (by decide))) a11 ka11 na11 a12 ka12 na12 (fun j h1 h2 => fr_R hB j (by omega) (by omega)) (fun j h1 h2 => by have z1 := hB.2.1 j (by omega) (by omega); have z2 := hB.2.1 143 (by omega) (by omega); show E.2.2.1 j + 143 = E.2.2.1 143 + j; omega) hB.2.2.1 (sN (sR q10 26 5 (some 141)) 142) (nn_of hq13)) rfl (gi_I wc_X2_init) (gtr_2 _ (List.mem_of_getElem? (i := 16) rfl)) (gtr_6 _ (List.mem_of_getElem? (i := 10) rfl)) (gtr_6 _ (List.mem_of_getElem? (i := 11) rfl)) rfl ⟨by decide, by decide, by decide +kernel⟩ rfl rfl (by decide) (by decide) (by decide) (by decide) (by decide) rfl (Nat.le_of_ble_eq_true rfl) dX11_init_99 hq13 (by decide) ?_
  have hC := cx_RO (k := 117) (s := 5427) hC0 hB hO (by decide) (by decide) (by decide)
  refine g_putRF (k := 6) hC hin cr11 ui_11 tyX11_ok nmX11 (by decide) (al_R.mpr (Or.inl ht2)) (al_R.mpr (Or.inr (by decide))) (by decide) fl_X11_62 rfl rfl rfl rfl rfl dX11_init_102 ?_
  refine g_aload_n hC dX11_init_105 rfl 0 rfl ?_
  refine r_new (k := 117) (s := 5427) hC0 hB hO 144 118 5433 rfl rfl rfl cr7 ui_7 tyX7_ok (by decide) kl_X11_66 ki_X7 (gtr_2 _ (List.mem_of_getElem? (i := 20) rfl)) (by decide) (by decide) (by decide) (by decide) dX11_init_106 ?_
  have hC := cx_RO (k := 118) (s := 5433) hC0 hB hO (by decide) (by decide) (by decide)
  refine g_dup hC dX11_init_109 rfl ?_
  obtain ⟨q14, hq14, h⟩ := bd_of h hf
  refine r_cM (na := 0) (k := 118) (s := 5433) (As := []) hC0 hB hO hao 118 5433 rfl rfl rfl (c_X7_init_144 (eR E 27 118) hC.2.2.2.2.2.2.1 (al_R.mpr (Or.inr (by decide)))  (fun j h1 h2 => fr_R hB j (by omega) (by omega)) (fun j h1 h2 => by have z1 := hB.2.1 j (by omega) (by omega); have z2 := hB.2.1 145 (by omega) (by omega); show E.2.2.1 j + 145 = E.2.2.1 145 + j; omega) hB.2.2.1 (sN (sR q13 26 6 (some 142)) 144) (nn_of hq14)) rfl (gi_I wc_X7_init) (gtr_2 _ (List.mem_of_getElem? (i := 20) rfl)) (hao.2.2 _ (List.mem_of_getElem? (i := 3) rfl)) (gtr_6 _ (List.mem_of_getElem? (i := 20) rfl)) rfl ⟨by decide, by decide, by decide +kernel⟩ rfl rfl (by decide) (by decide) (by decide) (by decide) (by decide) rfl (Nat.le_of_ble_eq_true rfl) dX11_init_110 hq14 (by decide) ?_
  have hC := cx_RO (k := 118) (s := 5433) hC0 hB hO (by decide) (by decide) (by decide)
  refine g_putRF (k := 7) hC hin cr11 ui_11 tyX11_ok nmX11 (by decide) (al_R.mpr (Or.inl ht2)) (al_R.mpr (Or.inr (by decide))) (by decide) fl_X11_69 rfl rfl rfl rfl rfl dX11_init_113 ?_
  refine g_aload_n hC dX11_init_116 rfl 0 rfl ?_
  refine r_new (k := 118) (s := 5433) hC0 hB hO 145 119 5435 rfl rfl rfl cr3 ui_3 tyX3_ok (by decide) kl_X11_73 ki_X3 (gtr_3 _ (List.mem_of_getElem? (i := 0) rfl)) (by decide) (by decide) (by decide) (by decide) dX11_init_117 ?_
  have hC := cx_RO (k := 119) (s := 5435) hC0 hB hO (by decide) (by decide) (by decide)
  refine g_dup hC dX11_init_120 rfl ?_
  obtain ⟨q15, hq15, h⟩ := bd_of h hf
  refine r_cM (na := 0) (k := 119) (s := 5435) (As := []) hC0 hB hO hao 119 5435 rfl rfl rfl (c_X3_init_145 (eR E 27 119) hC.2.2.2.2.2.2.1 (al_R.mpr (Or.inr (by decide)))  (fun j h1 h2 => fr_R hB j (by omega) (by omega)) (fun j h1 h2 => by have z1 := hB.2.1 j (by omega) (by omega); have z2 := hB.2.1 146 (by omega) (by omega); show E.2.2.1 j + 146 = E.2.2.1 146 + j; omega) hB.2.2.1 (sN (sR q14 26 7 (some 144)) 145) (nn_of hq15)) rfl (gi_I wc_X3_init) (gtr_3 _ (List.mem_of_getElem? (i := 0) rfl)) (hao.2.2 _ (List.mem_of_getElem? (i := 4) rfl)) (gtr_7 _ (List.mem_of_getElem? (i := 5) rfl)) rfl ⟨by decide, by decide, by decide +kernel⟩ rfl rfl (by decide) (by decide) (by decide) (by decide) (by decide) rfl (Nat.le_of_ble_eq_true rfl) dX11_init_121 hq15 (by decide) ?_
  have hC := cx_RO (k := 119) (s := 5435) hC0 hB hO (by decide) (by decide) (by decide)
  refine g_putRF (k := 8) hC hin cr11 ui_11 tyX11_ok nmX11 (by decide) (al_R.mpr (Or.inl ht2)) (al_R.mpr (Or.inr (by decide))) (by decide) fl_X11_76 rfl rfl rfl rfl rfl dX11_init_124 ?_
  refine g_aload_n hC dX11_init_127 rfl 0 rfl ?_
  refine g_iconst (v := 4) hC dX11_init_128 (by decide) ?_
  refine r_newa (k := 119) (s := 5435) (N := 4) (len := 2) hC0 hB hO 146 120 5439 rfl rfl rfl (by decide) (by decide) (by decide) (fun hC h1 h2 h3 h4 h5 kk => g_newI hC (by decide) ka_int (by decide) (by decide) (by decide) (by decide) h1 h2 h3 h4 h5 dX11_init_129 kk) ?_
  have hC := cx_RO (k := 120) (s := 5439) hC0 hB hO (by decide) (by decide) (by decide)
  refine g_putRF (k := 9) hC hin cr11 ui_11 tyX11_ok nmX11 (by decide) (al_R.mpr (Or.inl ht2)) (al_R.mpr (Or.inr (by decide))) (by decide) fl_X11_80 rfl rfl rfl rfl rfl dX11_init_131 ?_
  refine g_aload_n hC dX11_init_134 rfl 0 rfl ?_
  refine g_iconst (v := 4) hC dX11_init_135 (by decide) ?_
  refine r_newa (k := 120) (s := 5439) (N := 4) (len := 2) hC0 hB hO 147 121 5443 rfl rfl rfl (by decide) (by decide) (by decide) (fun hC h1 h2 h3 h4 h5 kk => g_newI hC (by decide) ka_int (by decide) (by decide) (by decide) (by decide) h1 h2 h3 h4 h5 dX11_init_136 kk) ?_
  have hC := cx_RO (k := 121) (s := 5443) hC0 hB hO (by decide) (by decide) (by decide)
  refine g_putRF (k := 10) hC hin cr11 ui_11 tyX11_ok nmX11 (by decide) (al_R.mpr (Or.inl ht2)) (al_R.mpr (Or.inr (by decide))) (by decide) fl_X11_84 rfl rfl rfl rfl rfl dX11_init_138 ?_
  refine g_aload_n hC dX11_init_141 rfl 0 rfl ?_
  refine g_iconst (v := 4) hC dX11_init_142 (by decide) ?_
  refine r_newa (k := 121) (s := 5443) (N := 4) (len := 2) hC0 hB hO 148 122 5447 rfl rfl rfl (by decide) (by decide) (by decide) (fun hC h1 h2 h3 h4 h5 kk => g_newI hC (by decide) ka_int (by decide) (by decide) (by decide) (by decide) h1 h2 h3 h4 h5 dX11_init_143 kk) ?_
  have hC := cx_RO (k := 122) (s := 5447) hC0 hB hO (by decide) (by decide) (by decide)
  refine g_putRF (k := 11) hC hin cr11 ui_11 tyX11_ok nmX11 (by decide) (al_R.mpr (Or.inl ht2)) (al_R.mpr (Or.inr (by decide))) (by decide) fl_X11_87 rfl rfl rfl rfl rfl dX11_init_145 ?_
  refine g_aload_n hC dX11_init_148 rfl 0 rfl ?_
  refine g_bipush (v := 8) hC dX11_init_149 (by decide) ?_
  refine r_newa (k := 122) (s := 5447) (N := 8) (len := 2) hC0 hB hO 149 123 5455 rfl rfl rfl (by decide) (by decide) (by decide) (fun hC h1 h2 h3 h4 h5 kk => g_newI hC (by decide) ka_int (by decide) (by decide) (by decide) (by decide) h1 h2 h3 h4 h5 dX11_init_151 kk) ?_
  have hC := cx_RO (k := 123) (s := 5455) hC0 hB hO (by decide) (by decide) (by decide)
  refine g_putRF (k := 12) hC hin cr11 ui_11 tyX11_ok nmX11 (by decide) (al_R.mpr (Or.inl ht2)) (al_R.mpr (Or.inr (by decide))) (by decide) fl_X11_90 rfl rfl rfl rfl rfl dX11_init_153 ?_
  refine g_aload_n hC dX11_init_156 rfl 0 rfl ?_
  refine r_new (k := 123) (s := 5455) hC0 hB hO 150 124 5465 rfl rfl rfl cr0 ui_0 tyX0_ok (by decide) kl_X11_93 ki_X0 (gtr_3 _ (List.mem_of_getElem? (i := 9) rfl)) (by decide) (by decide) (by decide) (by decide) dX11_init_157 ?_
  have hC := cx_RO (k := 124) (s := 5465) hC0 hB hO (by decide) (by decide) (by decide)
  refine g_dup hC dX11_init_160 rfl ?_
  obtain ⟨q16, hq16, h⟩ := bd_of h hf
  refine r_cM (na := 0) (k := 124) (s := 5465) (As := []) hC0 hB hO hao 133 5549 rfl rfl rfl (c_X0_init_150 (eR E 27 124) hC.2.2.2.2.2.2.1 (al_R.mpr (Or.inr (by decide)))  (fun j h1 h2 => fr_R hB j (by omega) (by omega)) (fun j h1 h2 => by have z1 := hB.2.1 j (by omega) (by omega); have z2 := hB.2.1 151 (by omega) (by omega); show E.2.2.1 j + 151 = E.2.2.1 151 + j; omega) hB.2.2.1 (sN (sR (sN (sR (sN (sR (sN (sR (sN (sR q15 26 8 (some 145)) 146) 26 9 (some 146)) 147) 26 10 (some 147)) 148) 26 11 (some 148)) 149) 26 12 (some 149)) 150) (nn_of hq16)) rfl (gi_I wc_X0_init) (gtr_3 _ (List.mem_of_getElem? (i := 9) rfl)) (hao.2.2 _ (List.mem_of_getElem? (i := 5) rfl)) (gtr_7 _ (List.mem_of_getElem? (i := 10) rfl)) rfl ⟨by decide, by decide, by decide +kernel⟩ rfl rfl (by decide) (by decide) (by decide) (by decide) (by decide) rfl (Nat.le_of_ble_eq_true rfl) dX11_init_161 hq16 (by decide) ?_
  have hC := cx_RO (k := 133) (s := 5549) hC0 hB hO (by decide) (by decide) (by decide)
  refine g_putR (k := 14) hC cr11 ui_11 tyX11_ok nmX11 (by decide) (al_R.mpr (Or.inl ht2)) (al_R.mpr (Or.inr (by decide))) (by decide) fl_X11_96 rfl rfl rfl rfl dX11_init_164 ?_
  refine g_aload_n hC dX11_init_167 rfl 0 rfl ?_
  refine r_new (k := 133) (s := 5549) hC0 hB hO 160 134 5559 rfl rfl rfl cr0 ui_0 tyX0_ok (by decide) kl_X11_93 ki_X0 (gtr_3 _ (List.mem_of_getElem? (i := 9) rfl)) (by decide) (by decide) (by decide) (by decide) dX11_init_168 ?_
  have hC := cx_RO (k := 134) (s := 5559) hC0 hB hO (by decide) (by decide) (by decide)
  refine g_dup hC dX11_init_171 rfl ?_
  obtain ⟨q17, hq17, h⟩ := bd_of h hf
  refine r_cM (na := 0) (k := 134) (s := 5559) (As := []) hC0 hB hO hao 143 5643 rfl rfl rfl (c_X0_init_160 (eR E 27 134) hC.2.2.2.2.2.2.1 (al_R.mpr (Or.inr (by decide)))  (fun j h1 h2 => fr_R hB j (by omega) (by omega)) (fun j h1 h2 => by have z1 := hB.2.1 j (by omega) (by omega); have z2 := hB.2.1 161 (by omega) (by omega); show E.2.2.1 j + 161 = E.2.2.1 161 + j; omega) hB.2.2.1 (sN (sR q16 26 14 (some 150)) 160) (nn_of hq17)) rfl (gi_I wc_X0_init) (gtr_3 _ (List.mem_of_getElem? (i := 9) rfl)) (hao.2.2 _ (List.mem_of_getElem? (i := 5) rfl)) (gtr_7 _ (List.mem_of_getElem? (i := 10) rfl)) rfl ⟨by decide, by decide, by decide +kernel⟩ rfl rfl (by decide) (by decide) (by decide) (by decide) (by decide) rfl (Nat.le_of_ble_eq_true rfl) dX11_init_172 hq17 (by decide) ?_
  have hC := cx_RO (k := 143) (s := 5643) hC0 hB hO (by decide) (by decide) (by decide)
  refine g_putR (k := 15) hC cr11 ui_11 tyX11_ok nmX11 (by decide) (al_R.mpr (Or.inl ht2)) (al_R.mpr (Or.inr (by decide))) (by decide) fl_X11_100 rfl rfl rfl rfl dX11_init_175 ?_
  refine g_iconst (v := 0) hC dX11_init_178 (by decide) ?_
  refine g_istore_n (lv' := [(1, .int 0), (0, .ref (E.2.2.1 26))]) hC dX11_init_179 rfl (by decide) rfl ?_
  refine g_iload_n hC dX11_init_180 rfl 0 rfl ?_
  refine g_iconst (v := 4) hC dX11_init_181 (by decide) ?_
  refine gb_icmp_ge_f (tgt := 198) hC dX11_init_182 (by decide) (by decide) ?_
  refine g_aload_n hC dX11_init_185 rfl 1 rfl ?_
  refine g_getR (cj := 14) (k := 11) hC cr11 ui_11 (by decide) (al_R.mpr (Or.inl ht2)) (by decide) fl_X11_87 rfl rfl dX11_init_186 h hf (fun a18 ea18 ka18 na18 h => ?_)
  refine g_iload_n hC dX11_init_189 rfl 0 rfl ?_
  refine g_iconst (v := (-1)) hC dX11_init_190 (by decide) ?_
  refine g_iast hC ka18 na18 dX11_init_191 h hf (fun h => ?_)
  refine g_iinc (v := 1) (lv' := [(1, .int 1), (0, .ref (E.2.2.1 26))]) hC dX11_init_192 0 rfl (by decide) (by decide) rfl ?_
  refine g_goto (tgt := 180) hC dX11_init_195 (by decide) ?_
  refine g_iload_n hC dX11_init_180 rfl 0 rfl ?_
  refine g_iconst (v := 4) hC dX11_init_181 (by decide) ?_
  refine gb_icmp_ge_f (tgt := 198) hC dX11_init_182 (by decide) (by decide) ?_
  refine g_aload_n hC dX11_init_185 rfl 1 rfl ?_
  refine g_getR (cj := 14) (k := 11) hC cr11 ui_11 (by decide) (al_R.mpr (Or.inl ht2)) (by decide) fl_X11_87 rfl rfl dX11_init_186 h hf (fun a19 ea19 ka19 na19 h => ?_)
  refine g_iload_n hC dX11_init_189 rfl 0 rfl ?_
  refine g_iconst (v := (-1)) hC dX11_init_190 (by decide) ?_
  refine g_iast hC ka19 na19 dX11_init_191 h hf (fun h => ?_)
  refine g_iinc (v := 2) (lv' := [(1, .int 2), (0, .ref (E.2.2.1 26))]) hC dX11_init_192 0 rfl (by decide) (by decide) rfl ?_
  refine g_goto (tgt := 180) hC dX11_init_195 (by decide) ?_
  refine g_iload_n hC dX11_init_180 rfl 0 rfl ?_
  refine g_iconst (v := 4) hC dX11_init_181 (by decide) ?_
  refine gb_icmp_ge_f (tgt := 198) hC dX11_init_182 (by decide) (by decide) ?_
  refine g_aload_n hC dX11_init_185 rfl 1 rfl ?_
  refine g_getR (cj := 14) (k := 11) hC cr11 ui_11 (by decide) (al_R.mpr (Or.inl ht2)) (by decide) fl_X11_87 rfl rfl dX11_init_186 h hf (fun a20 ea20 ka20 na20 h => ?_)
  refine g_iload_n hC dX11_init_189 rfl 0 rfl ?_
  refine g_iconst (v := (-1)) hC dX11_init_190 (by decide) ?_
  refine g_iast hC ka20 na20 dX11_init_191 h hf (fun h => ?_)
  refine g_iinc (v := 3) (lv' := [(1, .int 3), (0, .ref (E.2.2.1 26))]) hC dX11_init_192 0 rfl (by decide) (by decide) rfl ?_
  refine g_goto (tgt := 180) hC dX11_init_195 (by decide) ?_
  refine g_iload_n hC dX11_init_180 rfl 0 rfl ?_
  refine g_iconst (v := 4) hC dX11_init_181 (by decide) ?_
  refine gb_icmp_ge_f (tgt := 198) hC dX11_init_182 (by decide) (by decide) ?_
  refine g_aload_n hC dX11_init_185 rfl 1 rfl ?_
  refine g_getR (cj := 14) (k := 11) hC cr11 ui_11 (by decide) (al_R.mpr (Or.inl ht2)) (by decide) fl_X11_87 rfl rfl dX11_init_186 h hf (fun a21 ea21 ka21 na21 h => ?_)
  refine g_iload_n hC dX11_init_189 rfl 0 rfl ?_
  refine g_iconst (v := (-1)) hC dX11_init_190 (by decide) ?_
  refine g_iast hC ka21 na21 dX11_init_191 h hf (fun h => ?_)
  refine g_iinc (v := 4) (lv' := [(1, .int 4), (0, .ref (E.2.2.1 26))]) hC dX11_init_192 0 rfl (by decide) (by decide) rfl ?_
  refine g_goto (tgt := 180) hC dX11_init_195 (by decide) ?_
  refine g_iload_n hC dX11_init_180 rfl 0 rfl ?_
  refine g_iconst (v := 4) hC dX11_init_181 (by decide) ?_
  refine gb_icmp_ge_t (tgt := 198) hC dX11_init_182 (by decide) (by decide) ?_
  refine g_aload_n hC dX11_init_198 rfl 1 rfl ?_
  refine g_iconst (v := 3) hC dX11_init_199 (by decide) ?_
  obtain ⟨q22, hq22, h⟩ := bd_of h hf
  refine g_cVV (As := [.int 3]) hC hO (c_X11_beginWith _ hC.2.2.2.2.2.2.1 26 (by decide) (al_R.mpr (Or.inl ht2)) 3 (sI (sI (sI (sI (sR q17 26 15 (some 160)) a18 (0 : Int32).toNatClampNeg (-1)) a19 (1 : Int32).toNatClampNeg (-1)) a20 (2 : Int32).toNatClampNeg (-1)) a21 (3 : Int32).toNatClampNeg (-1)) (nn_of hq22)) gc_X11_103 (xk_X11_beginWith _ (Nat.le_of_ble_eq_true rfl) (Nat.le_of_ble_eq_true rfl)) cr11 (by decide) (al_R.mpr (Or.inl ht2)) rfl (Nat.le_of_ble_eq_true rfl) dX11_init_200 hq22 ?_
  exact r_vret hC0 hB hO hR (by decide) (by decide) (by decide) dX11_init_203 h
