def rm_X10_init_50 : Room := { frames := 2, cells := 74, slots := 4123, locals := 40 }
theorem oi_X10_3 : Cond.methodLink RX10 3 objectInit ∈ GT := gtr_4 _ (List.mem_of_getElem? (i := 16) rfl)
theorem kl_X10_9 : Cond.classLink RX10 9 "[[I" ∈ GT := gtr_4 _ (List.mem_of_getElem? (i := 17) rfl)
theorem kl_X10_16 : Cond.classLink RX10 16 RX1 ∈ GT := gtr_4 _ (List.mem_of_getElem? (i := 19) rfl)
theorem ki_X1 : Cond.instantiable RX1 6 ∈ GT := gtr_4 _ (List.mem_of_getElem? (i := 20) rfl)
theorem wc_X1_init : Cond.code yX1_init cX1_init 1 none ∈ GT := gtr_5 _ (List.mem_of_getElem? (i := 3) rfl)
set_option maxHeartbeats 4000000 in
set_option maxRecDepth 100000 in
theorem c_X10_init_50 (E : ET) (hE : EO E) (ht2 : AL E 50) (hb1 : ∀ j, 51 ≤ j → j < 125 → ¬ AL E j) (hb2 : ∀ j, 51 ≤ j → j < 125 → E.2.2.1 j + 51 = E.2.2.1 51 + j) (hb3 : ∀ i j, E.2.2.1 i = E.2.2.1 j → i = j) (σ : HS) (hf : f_X10_init_50 σ ≠ none) : CoN E 51 74 4123 yX10_init w_X10_init rm_X10_init_50 [.ref (E.2.2.1 50)] σ (f_X10_init_50 σ) := by
  refine CoN.of (lv := [(0, .ref (E.2.2.1 50))]) (n := 51) (b := 125) (mc := 74) (ms := 4123) hE (plainFor_of_name (by decide)) rfl rfl (Nat.le_of_ble_eq_true rfl) rfl hb1 hb2 hb3 ?_
  intro F hC0 hB hO hR hin hao
  generalize hfo : f_X10_init_50 σ = fo at hf hR
  have h := hfo
  have hC := cx_RO (k := 0) (s := 0) hC0 hB hO (by decide) (by decide) (by decide)
  refine g_aload_n hC dX10_init_0 rfl 0 rfl ?_
  refine g_obj hC hO oi_X10_3 (gtr_1 _ (List.mem_of_getElem? (i := 12) rfl)) (gtr_1 _ (List.mem_of_getElem? (i := 13) rfl)) dX10_init_1 (by decide) (by decide) ?_
  refine g_aload_n hC dX10_init_4 rfl 0 rfl ?_
  refine g_bipush (v := 12) hC dX10_init_5 (by decide) ?_
  refine g_iconst (v := 4) hC dX10_init_7 (by decide) ?_
  refine r_mna (k := 0) (s := 0) (N := 12) hC0 hB hO 51 13 60 rfl rfl rfl (by decide) (by decide) (by decide) (by decide) (by decide) (by decide) kl_X10_9 (aoI_use hao.2.1) ka_int (by decide) (by decide) (by decide) (by decide) (by decide) dX10_init_8 ?_
  have hC := cx_RO (k := 13) (s := 60) hC0 hB hO (by decide) (by decide) (by decide)
  refine g_putRF (k := 0) hC hin cr10 ui_10 tyX10_ok nmX10 (by decide) (al_R.mpr (Or.inl ht2)) (al_R.mpr (Or.inr (by decide))) (by decide) fl_X10_11 rfl rfl rfl rfl rfl dX10_init_12 ?_
  refine g_aload_n hC dX10_init_15 rfl 0 rfl ?_
  refine r_new (k := 13) (s := 60) hC0 hB hO 64 14 66 rfl rfl rfl cr1 ui_1 tyX1_ok (by decide) kl_X10_16 ki_X1 (gtr_4 _ (List.mem_of_getElem? (i := 21) rfl)) (by decide) (by decide) (by decide) (by decide) dX10_init_16 ?_
  have hC := cx_RO (k := 14) (s := 66) hC0 hB hO (by decide) (by decide) (by decide)
  refine g_dup hC dX10_init_19 rfl ?_
  obtain ⟨q1, hq1, h⟩ := bd_of h hf
  refine r_cM (na := 0) (k := 14) (s := 66) (As := []) hC0 hB hO hao 17 330 rfl rfl rfl (c_X1_init_64 (eR E 51 14) hC.2.2.2.2.2.2.1 (al_R.mpr (Or.inr (by decide)))  (fun j h1 h2 => fr_R hB j (by omega) (by omega)) (fun j h1 h2 => by have z1 := hB.2.1 j (by omega) (by omega); have z2 := hB.2.1 65 (by omega) (by omega); show E.2.2.1 j + 65 = E.2.2.1 65 + j; omega) hB.2.2.1 (sN (sR (sM σ 51 12) 50 0 (some 51)) 64) (nn_of hq1)) rfl (gi_I wc_X1_init) (gtr_4 _ (List.mem_of_getElem? (i := 21) rfl)) (hao.2.2 _ (List.mem_of_getElem? (i := 2) rfl)) (gtr_5 _ (List.mem_of_getElem? (i := 2) rfl)) rfl ⟨by decide, by decide, by decide +kernel⟩ rfl rfl (by decide) (by decide) (by decide) (by decide) (by decide) rfl (Nat.le_of_ble_eq_true rfl) dX10_init_20 hq1 (by decide) ?_
  have hC := cx_RO (k := 17) (s := 330) hC0 hB hO (by decide) (by decide) (by decide)
  refine g_putRF (k := 1) hC hin cr10 ui_10 tyX10_ok nmX10 (by decide) (al_R.mpr (Or.inl ht2)) (al_R.mpr (Or.inr (by decide))) (by decide) fl_X10_19 rfl rfl rfl rfl rfl dX10_init_23 ?_
  refine g_aload_n hC dX10_init_26 rfl 0 rfl ?_
  refine r_new (k := 17) (s := 330) hC0 hB hO 68 18 336 rfl rfl rfl cr1 ui_1 tyX1_ok (by decide) kl_X10_16 ki_X1 (gtr_4 _ (List.mem_of_getElem? (i := 21) rfl)) (by decide) (by decide) (by decide) (by decide) dX10_init_27 ?_
  have hC := cx_RO (k := 18) (s := 336) hC0 hB hO (by decide) (by decide) (by decide)
  refine g_dup hC dX10_init_30 rfl ?_
  obtain ⟨q2, hq2, h⟩ := bd_of h hf
  refine r_cM (na := 0) (k := 18) (s := 336) (As := []) hC0 hB hO hao 21 600 rfl rfl rfl (c_X1_init_68 (eR E 51 18) hC.2.2.2.2.2.2.1 (al_R.mpr (Or.inr (by decide)))  (fun j h1 h2 => fr_R hB j (by omega) (by omega)) (fun j h1 h2 => by have z1 := hB.2.1 j (by omega) (by omega); have z2 := hB.2.1 69 (by omega) (by omega); show E.2.2.1 j + 69 = E.2.2.1 69 + j; omega) hB.2.2.1 (sN (sR q1 50 1 (some 64)) 68) (nn_of hq2)) rfl (gi_I wc_X1_init) (gtr_4 _ (List.mem_of_getElem? (i := 21) rfl)) (hao.2.2 _ (List.mem_of_getElem? (i := 2) rfl)) (gtr_5 _ (List.mem_of_getElem? (i := 2) rfl)) rfl ⟨by decide, by decide, by decide +kernel⟩ rfl rfl (by decide) (by decide) (by decide) (by decide) (by decide) rfl (Nat.le_of_ble_eq_true rfl) dX10_init_31 hq2 (by decide) ?_
  have hC := cx_RO (k := 21) (s := 600) hC0 hB hO (by decide) (by decide) (by decide)
  refine g_putRF (k := 2) hC hin cr10 ui_10 tyX10_ok nmX10 (by decide) (al_R.mpr (Or.inl ht2)) (al_R.mpr (Or.inr (by decide))) (by decide) fl_X10_23 rfl rfl rfl rfl rfl dX10_init_34 ?_
  refine g_aload_n hC dX10_init_37 rfl 0 rfl ?_
  refine g_bipush (v := 13) hC dX10_init_38 (by decide) ?_
  refine r_newa (k := 21) (s := 600) (N := 13) (len := 3) hC0 hB hO 72 22 613 rfl rfl rfl (by decide) (by decide) (by decide) (fun hC h1 h2 h3 h4 h5 kk => g_newC hC (by decide) (by decide) kl_X10_16 (va_AO.use hao.1) (by decide) (by decide) (by decide) h1 h2 h3 h4 h5 dX10_init_40 kk) ?_
  have hC := cx_RO (k := 22) (s := 613) hC0 hB hO (by decide) (by decide) (by decide)
  refine g_putRF (k := 3) hC hin cr10 ui_10 tyX10_ok nmX10 (by decide) (al_R.mpr (Or.inl ht2)) (al_R.mpr (Or.inr (by decide))) (by decide) fl_X10_26 rfl rfl rfl rfl rfl dX10_init_43 ?_
  refine g_aload_n hC dX10_init_46 rfl 0 rfl ?_
  refine g_iconst (v := 0) hC dX10_init_47 (by decide) ?_
  refine g_putI (k := 4) hC cr10 ui_10 tyX10_ok nmX10 (by decide) (al_R.mpr (Or.inl ht2)) (by decide) fl_X10_30 rfl rfl rfl rfl dX10_init_48 ?_
  refine g_iconst (v := 0) hC dX10_init_51 (by decide) ?_
  refine g_istore_n (lv' := [(1, .int 0), (0, .ref (E.2.2.1 50))]) hC dX10_init_52 rfl (by decide) rfl ?_
  refine g_iload_n hC dX10_init_53 rfl 0 rfl ?_
  refine g_bipush (v := 13) hC dX10_init_54 (by decide) ?_
  refine gb_icmp_ge_f (tgt := 78) hC dX10_init_56 (by decide) (by decide) ?_
  refine g_aload_n hC dX10_init_59 rfl 1 rfl ?_
  refine g_getR (cj := 17) (k := 3) hC cr10 ui_10 (by decide) (al_R.mpr (Or.inl ht2)) (by decide) fl_X10_26 rfl rfl dX10_init_60 h hf (fun a3 ea3 ka3 na3 h => ?_)
  refine g_iload_n hC dX10_init_63 rfl 0 rfl ?_
  refine r_new (k := 22) (s := 613) hC0 hB hO 73 23 619 rfl rfl rfl cr1 ui_1 tyX1_ok (by decide) kl_X10_16 ki_X1 (gtr_4 _ (List.mem_of_getElem? (i := 21) rfl)) (by decide) (by decide) (by decide) (by decide) dX10_init_64 ?_
  have hC := cx_RO (k := 23) (s := 619) hC0 hB hO (by decide) (by decide) (by decide)
  refine g_dup hC dX10_init_67 rfl ?_
  obtain ⟨q4, hq4, h⟩ := bd_of h hf
  refine r_cM (na := 0) (k := 23) (s := 619) (As := []) hC0 hB hO hao 26 883 rfl rfl rfl (c_X1_init_73 (eR E 51 23) hC.2.2.2.2.2.2.1 (al_R.mpr (Or.inr (by decide)))  (fun j h1 h2 => fr_R hB j (by omega) (by omega)) (fun j h1 h2 => by have z1 := hB.2.1 j (by omega) (by omega); have z2 := hB.2.1 74 (by omega) (by omega); show E.2.2.1 j + 74 = E.2.2.1 74 + j; omega) hB.2.2.1 (sN (sI (sR (sN (sR q2 50 2 (some 68)) 72) 50 3 (some 72)) 50 4 0) 73) (nn_of hq4)) rfl (gi_I wc_X1_init) (gtr_4 _ (List.mem_of_getElem? (i := 21) rfl)) (hao.2.2 _ (List.mem_of_getElem? (i := 2) rfl)) (gtr_5 _ (List.mem_of_getElem? (i := 2) rfl)) rfl ⟨by decide, by decide, by decide +kernel⟩ rfl rfl (by decide) (by decide) (by decide) (by decide) (by decide) rfl (Nat.le_of_ble_eq_true rfl) dX10_init_68 hq4 (by decide) ?_
  have hC := cx_RO (k := 26) (s := 883) hC0 hB hO (by decide) (by decide) (by decide)
  refine g_aastC hC ka3 (al_up na3 (by decide)) (by decide) (al_R.mpr (Or.inr (by decide))) dX10_init_71 h hf (fun h => ?_)
  refine g_iinc (v := 1) (lv' := [(1, .int 1), (0, .ref (E.2.2.1 50))]) hC dX10_init_72 0 rfl (by decide) (by decide) rfl ?_
  refine g_goto (tgt := 53) hC dX10_init_75 (by decide) ?_
  refine g_iload_n hC dX10_init_53 rfl 0 rfl ?_
  refine g_bipush (v := 13) hC dX10_init_54 (by decide) ?_
  refine gb_icmp_ge_f (tgt := 78) hC dX10_init_56 (by decide) (by decide) ?_
  refine g_aload_n hC dX10_init_59 rfl 1 rfl ?_
  refine g_getR (cj := 17) (k := 3) hC cr10 ui_10 (by decide) (al_R.mpr (Or.inl ht2)) (by decide) fl_X10_26 rfl rfl dX10_init_60 h hf (fun a5 ea5 ka5 na5 h => ?_)
  refine g_iload_n hC dX10_init_63 rfl 0 rfl ?_
  refine r_new (k := 26) (s := 883) hC0 hB hO 77 27 889 rfl rfl rfl cr1 ui_1 tyX1_ok (by decide) kl_X10_16 ki_X1 (gtr_4 _ (List.mem_of_getElem? (i := 21) rfl)) (by decide) (by decide) (by decide) (by decide) dX10_init_64 ?_
  have hC := cx_RO (k := 27) (s := 889) hC0 hB hO (by decide) (by decide) (by decide)
  refine g_dup hC dX10_init_67 rfl ?_
  obtain ⟨q6, hq6, h⟩ := bd_of h hf
  refine r_cM (na := 0) (k := 27) (s := 889) (As := []) hC0 hB hO hao 30 1153 rfl rfl rfl (c_X1_init_77 (eR E 51 27) hC.2.2.2.2.2.2.1 (al_R.mpr (Or.inr (by decide)))  (fun j h1 h2 => fr_R hB j (by omega) (by omega)) (fun j h1 h2 => by have z1 := hB.2.1 j (by omega) (by omega); have z2 := hB.2.1 78 (by omega) (by omega); show E.2.2.1 j + 78 = E.2.2.1 78 + j; omega) hB.2.2.1 (sN (sR q4 a3 (0 : Int32).toNatClampNeg (some 73)) 77) (nn_of hq6)) rfl (gi_I wc_X1_init) (gtr_4 _ (List.mem_of_getElem? (i := 21) rfl)) (hao.2.2 _ (List.mem_of_getElem? (i := 2) rfl)) (gtr_5 _ (List.mem_of_getElem? (i := 2) rfl)) rfl ⟨by decide, by decide, by decide +kernel⟩ rfl rfl (by decide) (by decide) (by decide) (by decide) (by decide) rfl (Nat.le_of_ble_eq_true rfl) dX10_init_68 hq6 (by decide) ?_
  have hC := cx_RO (k := 30) (s := 1153) hC0 hB hO (by decide) (by decide) (by decide)
  refine g_aastC hC ka5 (al_up na5 (by decide)) (by decide) (al_R.mpr (Or.inr (by decide))) dX10_init_71 h hf (fun h => ?_)
  refine g_iinc (v := 2) (lv' := [(1, .int 2), (0, .ref (E.2.2.1 50))]) hC dX10_init_72 0 rfl (by decide) (by decide) rfl ?_
  refine g_goto (tgt := 53) hC dX10_init_75 (by decide) ?_
  refine g_iload_n hC dX10_init_53 rfl 0 rfl ?_
  refine g_bipush (v := 13) hC dX10_init_54 (by decide) ?_
  refine gb_icmp_ge_f (tgt := 78) hC dX10_init_56 (by decide) (by decide) ?_
  refine g_aload_n hC dX10_init_59 rfl 1 rfl ?_
  refine g_getR (cj := 17) (k := 3) hC cr10 ui_10 (by decide) (al_R.mpr (Or.inl ht2)) (by decide) fl_X10_26 rfl rfl dX10_init_60 h hf (fun a7 ea7 ka7 na7 h => ?_)
  refine g_iload_n hC dX10_init_63 rfl 0 rfl ?_
  refine r_new (k := 30) (s := 1153) hC0 hB hO 81 31 1159 rfl rfl rfl cr1 ui_1 tyX1_ok (by decide) kl_X10_16 ki_X1 (gtr_4 _ (List.mem_of_getElem? (i := 21) rfl)) (by decide) (by decide) (by decide) (by decide) dX10_init_64 ?_
  have hC := cx_RO (k := 31) (s := 1159) hC0 hB hO (by decide) (by decide) (by decide)
  refine g_dup hC dX10_init_67 rfl ?_
  obtain ⟨q8, hq8, h⟩ := bd_of h hf
  refine r_cM (na := 0) (k := 31) (s := 1159) (As := []) hC0 hB hO hao 34 1423 rfl rfl rfl (c_X1_init_81 (eR E 51 31) hC.2.2.2.2.2.2.1 (al_R.mpr (Or.inr (by decide)))  (fun j h1 h2 => fr_R hB j (by omega) (by omega)) (fun j h1 h2 => by have z1 := hB.2.1 j (by omega) (by omega); have z2 := hB.2.1 82 (by omega) (by omega); show E.2.2.1 j + 82 = E.2.2.1 82 + j; omega) hB.2.2.1 (sN (sR q6 a5 (1 : Int32).toNatClampNeg (some 77)) 81) (nn_of hq8)) rfl (gi_I wc_X1_init) (gtr_4 _ (List.mem_of_getElem? (i := 21) rfl)) (hao.2.2 _ (List.mem_of_getElem? (i := 2) rfl)) (gtr_5 _ (List.mem_of_getElem? (i := 2) rfl)) rfl ⟨by decide, by decide, by decide +kernel⟩ rfl rfl (by decide) (by decide) (by decide) (by decide) (by decide) rfl (Nat.le_of_ble_eq_true rfl) dX10_init_68 hq8 (by decide) ?_
  have hC := cx_RO (k := 34) (s := 1423) hC0 hB hO (by decide) (by decide) (by decide)
  refine g_aastC hC ka7 (al_up na7 (by decide)) (by decide) (al_R.mpr (Or.inr (by decide))) dX10_init_71 h hf (fun h => ?_)
  refine g_iinc (v := 3) (lv' := [(1, .int 3), (0, .ref (E.2.2.1 50))]) hC dX10_init_72 0 rfl (by decide) (by decide) rfl ?_
  refine g_goto (tgt := 53) hC dX10_init_75 (by decide) ?_
  refine g_iload_n hC dX10_init_53 rfl 0 rfl ?_
  refine g_bipush (v := 13) hC dX10_init_54 (by decide) ?_
  refine gb_icmp_ge_f (tgt := 78) hC dX10_init_56 (by decide) (by decide) ?_
  refine g_aload_n hC dX10_init_59 rfl 1 rfl ?_
  refine g_getR (cj := 17) (k := 3) hC cr10 ui_10 (by decide) (al_R.mpr (Or.inl ht2)) (by decide) fl_X10_26 rfl rfl dX10_init_60 h hf (fun a9 ea9 ka9 na9 h => ?_)
  refine g_iload_n hC dX10_init_63 rfl 0 rfl ?_
  refine r_new (k := 34) (s := 1423) hC0 hB hO 85 35 1429 rfl rfl rfl cr1 ui_1 tyX1_ok (by decide) kl_X10_16 ki_X1 (gtr_4 _ (List.mem_of_getElem? (i := 21) rfl)) (by decide) (by decide) (by decide) (by decide) dX10_init_64 ?_
  have hC := cx_RO (k := 35) (s := 1429) hC0 hB hO (by decide) (by decide) (by decide)
  refine g_dup hC dX10_init_67 rfl ?_
  obtain ⟨q10, hq10, h⟩ := bd_of h hf
  refine r_cM (na := 0) (k := 35) (s := 1429) (As := []) hC0 hB hO hao 38 1693 rfl rfl rfl (c_X1_init_85 (eR E 51 35) hC.2.2.2.2.2.2.1 (al_R.mpr (Or.inr (by decide)))  (fun j h1 h2 => fr_R hB j (by omega) (by omega)) (fun j h1 h2 => by have z1 := hB.2.1 j (by omega) (by omega); have z2 := hB.2.1 86 (by omega) (by omega); show E.2.2.1 j + 86 = E.2.2.1 86 + j; omega) hB.2.2.1 (sN (sR q8 a7 (2 : Int32).toNatClampNeg (some 81)) 85) (nn_of hq10)) rfl (gi_I wc_X1_init) (gtr_4 _ (List.mem_of_getElem? (i := 21) rfl)) (hao.2.2 _ (List.mem_of_getElem? (i := 2) rfl)) (gtr_5 _ (List.mem_of_getElem? (i := 2) rfl)) rfl ⟨by decide, by decide, by decide +kernel⟩ rfl rfl (by decide) (by decide) (by decide) (by decide) (by decide) rfl (Nat.le_of_ble_eq_true rfl) dX10_init_68 hq10 (by decide) ?_
  have hC := cx_RO (k := 38) (s := 1693) hC0 hB hO (by decide) (by decide) (by decide)
  refine g_aastC hC ka9 (al_up na9 (by decide)) (by decide) (al_R.mpr (Or.inr (by decide))) dX10_init_71 h hf (fun h => ?_)
  refine g_iinc (v := 4) (lv' := [(1, .int 4), (0, .ref (E.2.2.1 50))]) hC dX10_init_72 0 rfl (by decide) (by decide) rfl ?_
  refine g_goto (tgt := 53) hC dX10_init_75 (by decide) ?_
  refine g_iload_n hC dX10_init_53 rfl 0 rfl ?_
  refine g_bipush (v := 13) hC dX10_init_54 (by decide) ?_
  refine gb_icmp_ge_f (tgt := 78) hC dX10_init_56 (by decide) (by decide) ?_
  refine g_aload_n hC dX10_init_59 rfl 1 rfl ?_
  refine g_getR (cj := 17) (k := 3) hC cr10 ui_10 (by decide) (al_R.mpr (Or.inl ht2)) (by decide) fl_X10_26 rfl rfl dX10_init_60 h hf (fun a11 ea11 ka11 na11 h => ?_)
  refine g_iload_n hC dX10_init_63 rfl 0 rfl ?_
  refine r_new (k := 38) (s := 1693) hC0 hB hO 89 39 1699 rfl rfl rfl cr1 ui_1 tyX1_ok (by decide) kl_X10_16 ki_X1 (gtr_4 _ (List.mem_of_getElem? (i := 21) rfl)) (by decide) (by decide) (by decide) (by decide) dX10_init_64 ?_
  have hC := cx_RO (k := 39) (s := 1699) hC0 hB hO (by decide) (by decide) (by decide)
  refine g_dup hC dX10_init_67 rfl ?_
  obtain ⟨q12, hq12, h⟩ := bd_of h hf
  refine r_cM (na := 0) (k := 39) (s := 1699) (As := []) hC0 hB hO hao 42 1963 rfl rfl rfl (c_X1_init_89 (eR E 51 39) hC.2.2.2.2.2.2.1 (al_R.mpr (Or.inr (by decide)))  (fun j h1 h2 => fr_R hB j (by omega) (by omega)) (fun j h1 h2 => by have z1 := hB.2.1 j (by omega) (by omega); have z2 := hB.2.1 90 (by omega) (by omega); show E.2.2.1 j + 90 = E.2.2.1 90 + j; omega) hB.2.2.1 (sN (sR q10 a9 (3 : Int32).toNatClampNeg (some 85)) 89) (nn_of hq12)) rfl (gi_I wc_X1_init) (gtr_4 _ (List.mem_of_getElem? (i := 21) rfl)) (hao.2.2 _ (List.mem_of_getElem? (i := 2) rfl)) (gtr_5 _ (List.mem_of_getElem? (i := 2) rfl)) rfl ⟨by decide, by decide, by decide +kernel⟩ rfl rfl (by decide) (by decide) (by decide) (by decide) (by decide) rfl (Nat.le_of_ble_eq_true rfl) dX10_init_68 hq12 (by decide) ?_
  have hC := cx_RO (k := 42) (s := 1963) hC0 hB hO (by decide) (by decide) (by decide)
  refine g_aastC hC ka11 (al_up na11 (by decide)) (by decide) (al_R.mpr (Or.inr (by decide))) dX10_init_71 h hf (fun h => ?_)
  refine g_iinc (v := 5) (lv' := [(1, .int 5), (0, .ref (E.2.2.1 50))]) hC dX10_init_72 0 rfl (by decide) (by decide) rfl ?_
  refine g_goto (tgt := 53) hC dX10_init_75 (by decide) ?_
  refine g_iload_n hC dX10_init_53 rfl 0 rfl ?_
  refine g_bipush (v := 13) hC dX10_init_54 (by decide) ?_
  refine gb_icmp_ge_f (tgt := 78) hC dX10_init_56 (by decide) (by decide) ?_
  refine g_aload_n hC dX10_init_59 rfl 1 rfl ?_
  refine g_getR (cj := 17) (k := 3) hC cr10 ui_10 (by decide) (al_R.mpr (Or.inl ht2)) (by decide) fl_X10_26 rfl rfl dX10_init_60 h hf (fun a13 ea13 ka13 na13 h => ?_)
  refine g_iload_n hC dX10_init_63 rfl 0 rfl ?_
  refine r_new (k := 42) (s := 1963) hC0 hB hO 93 43 1969 rfl rfl rfl cr1 ui_1 tyX1_ok (by decide) kl_X10_16 ki_X1 (gtr_4 _ (List.mem_of_getElem? (i := 21) rfl)) (by decide) (by decide) (by decide) (by decide) dX10_init_64 ?_
  have hC := cx_RO (k := 43) (s := 1969) hC0 hB hO (by decide) (by decide) (by decide)
  refine g_dup hC dX10_init_67 rfl ?_
  obtain ⟨q14, hq14, h⟩ := bd_of h hf
  refine r_cM (na := 0) (k := 43) (s := 1969) (As := []) hC0 hB hO hao 46 2233 rfl rfl rfl (c_X1_init_93 (eR E 51 43) hC.2.2.2.2.2.2.1 (al_R.mpr (Or.inr (by decide)))  (fun j h1 h2 => fr_R hB j (by omega) (by omega)) (fun j h1 h2 => by have z1 := hB.2.1 j (by omega) (by omega); have z2 := hB.2.1 94 (by omega) (by omega); show E.2.2.1 j + 94 = E.2.2.1 94 + j; omega) hB.2.2.1 (sN (sR q12 a11 (4 : Int32).toNatClampNeg (some 89)) 93) (nn_of hq14)) rfl (gi_I wc_X1_init) (gtr_4 _ (List.mem_of_getElem? (i := 21) rfl)) (hao.2.2 _ (List.mem_of_getElem? (i := 2) rfl)) (gtr_5 _ (List.mem_of_getElem? (i := 2) rfl)) rfl ⟨by decide, by decide, by decide +kernel⟩ rfl rfl (by decide) (by decide) (by decide) (by decide) (by decide) rfl (Nat.le_of_ble_eq_true rfl) dX10_init_68 hq14 (by decide) ?_
  have hC := cx_RO (k := 46) (s := 2233) hC0 hB hO (by decide) (by decide) (by decide)
  refine g_aastC hC ka13 (al_up na13 (by decide)) (by decide) (al_R.mpr (Or.inr (by decide))) dX10_init_71 h hf (fun h => ?_)
  refine g_iinc (v := 6) (lv' := [(1, .int 6), (0, .ref (E.2.2.1 50))]) hC dX10_init_72 0 rfl (by decide) (by decide) rfl ?_
  refine g_goto (tgt := 53) hC dX10_init_75 (by decide) ?_
  refine g_iload_n hC dX10_init_53 rfl 0 rfl ?_
  refine g_bipush (v := 13) hC dX10_init_54 (by decide) ?_
  refine gb_icmp_ge_f (tgt := 78) hC dX10_init_56 (by decide) (by decide) ?_
  refine g_aload_n hC dX10_init_59 rfl 1 rfl ?_
  refine g_getR (cj := 17) (k := 3) hC cr10 ui_10 (by decide) (al_R.mpr (Or.inl ht2)) (by decide) fl_X10_26 rfl rfl dX10_init_60 h hf (fun a15 ea15 ka15 na15 h => ?_)
  refine g_iload_n hC dX10_init_63 rfl 0 rfl ?_
  refine r_new (k := 46) (s := 2233) hC0 hB hO 97 47 2239 rfl rfl rfl cr1 ui_1 tyX1_ok (by decide) kl_X10_16 ki_X1 (gtr_4 _ (List.mem_of_getElem? (i := 21) rfl)) (by decide) (by decide) (by decide) (by decide) dX10_init_64 ?_
  have hC := cx_RO (k := 47) (s := 2239) hC0 hB hO (by decide) (by decide) (by decide)
  refine g_dup hC dX10_init_67 rfl ?_
  obtain ⟨q16, hq16, h⟩ := bd_of h hf
  refine r_cM (na := 0) (k := 47) (s := 2239) (As := []) hC0 hB hO hao 50 2503 rfl rfl rfl (c_X1_init_97 (eR E 51 47) hC.2.2.2.2.2.2.1 (al_R.mpr (Or.inr (by decide)))  (fun j h1 h2 => fr_R hB j (by omega) (by omega)) (fun j h1 h2 => by have z1 := hB.2.1 j (by omega) (by omega); have z2 := hB.2.1 98 (by omega) (by omega); show E.2.2.1 j + 98 = E.2.2.1 98 + j; omega) hB.2.2.1 (sN (sR q14 a13 (5 : Int32).toNatClampNeg (some 93)) 97) (nn_of hq16)) rfl (gi_I wc_X1_init) (gtr_4 _ (List.mem_of_getElem? (i := 21) rfl)) (hao.2.2 _ (List.mem_of_getElem? (i := 2) rfl)) (gtr_5 _ (List.mem_of_getElem? (i := 2) rfl)) rfl ⟨by decide, by decide, by decide +kernel⟩ rfl rfl (by decide) (by decide) (by decide) (by decide) (by decide) rfl (Nat.le_of_ble_eq_true rfl) dX10_init_68 hq16 (by decide) ?_
  have hC := cx_RO (k := 50) (s := 2503) hC0 hB hO (by decide) (by decide) (by decide)
  refine g_aastC hC ka15 (al_up na15 (by decide)) (by decide) (al_R.mpr (Or.inr (by decide))) dX10_init_71 h hf (fun h => ?_)
  refine g_iinc (v := 7) (lv' := [(1, .int 7), (0, .ref (E.2.2.1 50))]) hC dX10_init_72 0 rfl (by decide) (by decide) rfl ?_
  refine g_goto (tgt := 53) hC dX10_init_75 (by decide) ?_
  refine g_iload_n hC dX10_init_53 rfl 0 rfl ?_
  refine g_bipush (v := 13) hC dX10_init_54 (by decide) ?_
  refine gb_icmp_ge_f (tgt := 78) hC dX10_init_56 (by decide) (by decide) ?_
  refine g_aload_n hC dX10_init_59 rfl 1 rfl ?_
  refine g_getR (cj := 17) (k := 3) hC cr10 ui_10 (by decide) (al_R.mpr (Or.inl ht2)) (by decide) fl_X10_26 rfl rfl dX10_init_60 h hf (fun a17 ea17 ka17 na17 h => ?_)
  refine g_iload_n hC dX10_init_63 rfl 0 rfl ?_
  refine r_new (k := 50) (s := 2503) hC0 hB hO 101 51 2509 rfl rfl rfl cr1 ui_1 tyX1_ok (by decide) kl_X10_16 ki_X1 (gtr_4 _ (List.mem_of_getElem? (i := 21) rfl)) (by decide) (by decide) (by decide) (by decide) dX10_init_64 ?_
  have hC := cx_RO (k := 51) (s := 2509) hC0 hB hO (by decide) (by decide) (by decide)
  refine g_dup hC dX10_init_67 rfl ?_
  obtain ⟨q18, hq18, h⟩ := bd_of h hf
  refine r_cM (na := 0) (k := 51) (s := 2509) (As := []) hC0 hB hO hao 54 2773 rfl rfl rfl (c_X1_init_101 (eR E 51 51) hC.2.2.2.2.2.2.1 (al_R.mpr (Or.inr (by decide)))  (fun j h1 h2 => fr_R hB j (by omega) (by omega)) (fun j h1 h2 => by have z1 := hB.2.1 j (by omega) (by omega); have z2 := hB.2.1 102 (by omega) (by omega); show E.2.2.1 j + 102 = E.2.2.1 102 + j; omega) hB.2.2.1 (sN (sR q16 a15 (6 : Int32).toNatClampNeg (some 97)) 101) (nn_of hq18)) rfl (gi_I wc_X1_init) (gtr_4 _ (List.mem_of_getElem? (i := 21) rfl)) (hao.2.2 _ (List.mem_of_getElem? (i := 2) rfl)) (gtr_5 _ (List.mem_of_getElem? (i := 2) rfl)) rfl ⟨by decide, by decide, by decide +kernel⟩ rfl rfl (by decide) (by decide) (by decide) (by decide) (by decide) rfl (Nat.le_of_ble_eq_true rfl) dX10_init_68 hq18 (by decide) ?_
  have hC := cx_RO (k := 54) (s := 2773) hC0 hB hO (by decide) (by decide) (by decide)
  refine g_aastC hC ka17 (al_up na17 (by decide)) (by decide) (al_R.mpr (Or.inr (by decide))) dX10_init_71 h hf (fun h => ?_)
  refine g_iinc (v := 8) (lv' := [(1, .int 8), (0, .ref (E.2.2.1 50))]) hC dX10_init_72 0 rfl (by decide) (by decide) rfl ?_
  refine g_goto (tgt := 53) hC dX10_init_75 (by decide) ?_
  refine g_iload_n hC dX10_init_53 rfl 0 rfl ?_
  refine g_bipush (v := 13) hC dX10_init_54 (by decide) ?_
  refine gb_icmp_ge_f (tgt := 78) hC dX10_init_56 (by decide) (by decide) ?_
  refine g_aload_n hC dX10_init_59 rfl 1 rfl ?_
  refine g_getR (cj := 17) (k := 3) hC cr10 ui_10 (by decide) (al_R.mpr (Or.inl ht2)) (by decide) fl_X10_26 rfl rfl dX10_init_60 h hf (fun a19 ea19 ka19 na19 h => ?_)
  refine g_iload_n hC dX10_init_63 rfl 0 rfl ?_
  refine r_new (k := 54) (s := 2773) hC0 hB hO 105 55 2779 rfl rfl rfl cr1 ui_1 tyX1_ok (by decide) kl_X10_16 ki_X1 (gtr_4 _ (List.mem_of_getElem? (i := 21) rfl)) (by decide) (by decide) (by decide) (by decide) dX10_init_64 ?_
  have hC := cx_RO (k := 55) (s := 2779) hC0 hB hO (by decide) (by decide) (by decide)
  refine g_dup hC dX10_init_67 rfl ?_
  obtain ⟨q20, hq20, h⟩ := bd_of h hf
  refine r_cM (na := 0) (k := 55) (s := 2779) (As := []) hC0 hB hO hao 58 3043 rfl rfl rfl (c_X1_init_105 (eR E 51 55) hC.2.2.2.2.2.2.1 (al_R.mpr (Or.inr (by decide)))  (fun j h1 h2 => fr_R hB j (by omega) (by omega)) (fun j h1 h2 => by have z1 := hB.2.1 j (by omega) (by omega); have z2 := hB.2.1 106 (by omega) (by omega); show E.2.2.1 j + 106 = E.2.2.1 106 + j; omega) hB.2.2.1 (sN (sR q18 a17 (7 : Int32).toNatClampNeg (some 101)) 105) (nn_of hq20)) rfl (gi_I wc_X1_init) (gtr_4 _ (List.mem_of_getElem? (i := 21) rfl)) (hao.2.2 _ (List.mem_of_getElem? (i := 2) rfl)) (gtr_5 _ (List.mem_of_getElem? (i := 2) rfl)) rfl ⟨by decide, by decide, by decide +kernel⟩ rfl rfl (by decide) (by decide) (by decide) (by decide) (by decide) rfl (Nat.le_of_ble_eq_true rfl) dX10_init_68 hq20 (by decide) ?_
  have hC := cx_RO (k := 58) (s := 3043) hC0 hB hO (by decide) (by decide) (by decide)
  refine g_aastC hC ka19 (al_up na19 (by decide)) (by decide) (al_R.mpr (Or.inr (by decide))) dX10_init_71 h hf (fun h => ?_)
  refine g_iinc (v := 9) (lv' := [(1, .int 9), (0, .ref (E.2.2.1 50))]) hC dX10_init_72 0 rfl (by decide) (by decide) rfl ?_
  refine g_goto (tgt := 53) hC dX10_init_75 (by decide) ?_
  refine g_iload_n hC dX10_init_53 rfl 0 rfl ?_
  refine g_bipush (v := 13) hC dX10_init_54 (by decide) ?_
  refine gb_icmp_ge_f (tgt := 78) hC dX10_init_56 (by decide) (by decide) ?_
  refine g_aload_n hC dX10_init_59 rfl 1 rfl ?_
  refine g_getR (cj := 17) (k := 3) hC cr10 ui_10 (by decide) (al_R.mpr (Or.inl ht2)) (by decide) fl_X10_26 rfl rfl dX10_init_60 h hf (fun a21 ea21 ka21 na21 h => ?_)
  refine g_iload_n hC dX10_init_63 rfl 0 rfl ?_
  refine r_new (k := 58) (s := 3043) hC0 hB hO 109 59 3049 rfl rfl rfl cr1 ui_1 tyX1_ok (by decide) kl_X10_16 ki_X1 (gtr_4 _ (List.mem_of_getElem? (i := 21) rfl)) (by decide) (by decide) (by decide) (by decide) dX10_init_64 ?_
  have hC := cx_RO (k := 59) (s := 3049) hC0 hB hO (by decide) (by decide) (by decide)
  refine g_dup hC dX10_init_67 rfl ?_
  obtain ⟨q22, hq22, h⟩ := bd_of h hf
  refine r_cM (na := 0) (k := 59) (s := 3049) (As := []) hC0 hB hO hao 62 3313 rfl rfl rfl (c_X1_init_109 (eR E 51 59) hC.2.2.2.2.2.2.1 (al_R.mpr (Or.inr (by decide)))  (fun j h1 h2 => fr_R hB j (by omega) (by omega)) (fun j h1 h2 => by have z1 := hB.2.1 j (by omega) (by omega); have z2 := hB.2.1 110 (by omega) (by omega); show E.2.2.1 j + 110 = E.2.2.1 110 + j; omega) hB.2.2.1 (sN (sR q20 a19 (8 : Int32).toNatClampNeg (some 105)) 109) (nn_of hq22)) rfl (gi_I wc_X1_init) (gtr_4 _ (List.mem_of_getElem? (i := 21) rfl)) (hao.2.2 _ (List.mem_of_getElem? (i := 2) rfl)) (gtr_5 _ (List.mem_of_getElem? (i := 2) rfl)) rfl ⟨by decide, by decide, by decide +kernel⟩ rfl rfl (by decide) (by decide) (by decide) (by decide) (by decide) rfl (Nat.le_of_ble_eq_true rfl) dX10_init_68 hq22 (by decide) ?_
  have hC := cx_RO (k := 62) (s := 3313) hC0 hB hO (by decide) (by decide) (by decide)
  refine g_aastC hC ka21 (al_up na21 (by decide)) (by decide) (al_R.mpr (Or.inr (by decide))) dX10_init_71 h hf (fun h => ?_)
  refine g_iinc (v := 10) (lv' := [(1, .int 10), (0, .ref (E.2.2.1 50))]) hC dX10_init_72 0 rfl (by decide) (by decide) rfl ?_
  refine g_goto (tgt := 53) hC dX10_init_75 (by decide) ?_
  refine g_iload_n hC dX10_init_53 rfl 0 rfl ?_
  refine g_bipush (v := 13) hC dX10_init_54 (by decide) ?_
  refine gb_icmp_ge_f (tgt := 78) hC dX10_init_56 (by decide) (by decide) ?_
  refine g_aload_n hC dX10_init_59 rfl 1 rfl ?_
  refine g_getR (cj := 17) (k := 3) hC cr10 ui_10 (by decide) (al_R.mpr (Or.inl ht2)) (by decide) fl_X10_26 rfl rfl dX10_init_60 h hf (fun a23 ea23 ka23 na23 h => ?_)
  refine g_iload_n hC dX10_init_63 rfl 0 rfl ?_
  refine r_new (k := 62) (s := 3313) hC0 hB hO 113 63 3319 rfl rfl rfl cr1 ui_1 tyX1_ok (by decide) kl_X10_16 ki_X1 (gtr_4 _ (List.mem_of_getElem? (i := 21) rfl)) (by decide) (by decide) (by decide) (by decide) dX10_init_64 ?_
  have hC := cx_RO (k := 63) (s := 3319) hC0 hB hO (by decide) (by decide) (by decide)
  refine g_dup hC dX10_init_67 rfl ?_
  obtain ⟨q24, hq24, h⟩ := bd_of h hf
  refine r_cM (na := 0) (k := 63) (s := 3319) (As := []) hC0 hB hO hao 66 3583 rfl rfl rfl (c_X1_init_113 (eR E 51 63) hC.2.2.2.2.2.2.1 (al_R.mpr (Or.inr (by decide)))  (fun j h1 h2 => fr_R hB j (by omega) (by omega)) (fun j h1 h2 => by have z1 := hB.2.1 j (by omega) (by omega); have z2 := hB.2.1 114 (by omega) (by omega); show E.2.2.1 j + 114 = E.2.2.1 114 + j; omega) hB.2.2.1 (sN (sR q22 a21 (9 : Int32).toNatClampNeg (some 109)) 113) (nn_of hq24)) rfl (gi_I wc_X1_init) (gtr_4 _ (List.mem_of_getElem? (i := 21) rfl)) (hao.2.2 _ (List.mem_of_getElem? (i := 2) rfl)) (gtr_5 _ (List.mem_of_getElem? (i := 2) rfl)) rfl ⟨by decide, by decide, by decide +kernel⟩ rfl rfl (by decide) (by decide) (by decide) (by decide) (by decide) rfl (Nat.le_of_ble_eq_true rfl) dX10_init_68 hq24 (by decide) ?_
  have hC := cx_RO (k := 66) (s := 3583) hC0 hB hO (by decide) (by decide) (by decide)
  refine g_aastC hC ka23 (al_up na23 (by decide)) (by decide) (al_R.mpr (Or.inr (by decide))) dX10_init_71 h hf (fun h => ?_)
  refine g_iinc (v := 11) (lv' := [(1, .int 11), (0, .ref (E.2.2.1 50))]) hC dX10_init_72 0 rfl (by decide) (by decide) rfl ?_
  refine g_goto (tgt := 53) hC dX10_init_75 (by decide) ?_
  refine g_iload_n hC dX10_init_53 rfl 0 rfl ?_
  refine g_bipush (v := 13) hC dX10_init_54 (by decide) ?_
  refine gb_icmp_ge_f (tgt := 78) hC dX10_init_56 (by decide) (by decide) ?_
  refine g_aload_n hC dX10_init_59 rfl 1 rfl ?_
  refine g_getR (cj := 17) (k := 3) hC cr10 ui_10 (by decide) (al_R.mpr (Or.inl ht2)) (by decide) fl_X10_26 rfl rfl dX10_init_60 h hf (fun a25 ea25 ka25 na25 h => ?_)
  refine g_iload_n hC dX10_init_63 rfl 0 rfl ?_
  refine r_new (k := 66) (s := 3583) hC0 hB hO 117 67 3589 rfl rfl rfl cr1 ui_1 tyX1_ok (by decide) kl_X10_16 ki_X1 (gtr_4 _ (List.mem_of_getElem? (i := 21) rfl)) (by decide) (by decide) (by decide) (by decide) dX10_init_64 ?_
  have hC := cx_RO (k := 67) (s := 3589) hC0 hB hO (by decide) (by decide) (by decide)
  refine g_dup hC dX10_init_67 rfl ?_
  obtain ⟨q26, hq26, h⟩ := bd_of h hf
  refine r_cM (na := 0) (k := 67) (s := 3589) (As := []) hC0 hB hO hao 70 3853 rfl rfl rfl (c_X1_init_117 (eR E 51 67) hC.2.2.2.2.2.2.1 (al_R.mpr (Or.inr (by decide)))  (fun j h1 h2 => fr_R hB j (by omega) (by omega)) (fun j h1 h2 => by have z1 := hB.2.1 j (by omega) (by omega); have z2 := hB.2.1 118 (by omega) (by omega); show E.2.2.1 j + 118 = E.2.2.1 118 + j; omega) hB.2.2.1 (sN (sR q24 a23 (10 : Int32).toNatClampNeg (some 113)) 117) (nn_of hq26)) rfl (gi_I wc_X1_init) (gtr_4 _ (List.mem_of_getElem? (i := 21) rfl)) (hao.2.2 _ (List.mem_of_getElem? (i := 2) rfl)) (gtr_5 _ (List.mem_of_getElem? (i := 2) rfl)) rfl ⟨by decide, by decide, by decide +kernel⟩ rfl rfl (by decide) (by decide) (by decide) (by decide) (by decide) rfl (Nat.le_of_ble_eq_true rfl) dX10_init_68 hq26 (by decide) ?_
  have hC := cx_RO (k := 70) (s := 3853) hC0 hB hO (by decide) (by decide) (by decide)
  refine g_aastC hC ka25 (al_up na25 (by decide)) (by decide) (al_R.mpr (Or.inr (by decide))) dX10_init_71 h hf (fun h => ?_)
  refine g_iinc (v := 12) (lv' := [(1, .int 12), (0, .ref (E.2.2.1 50))]) hC dX10_init_72 0 rfl (by decide) (by decide) rfl ?_
  refine g_goto (tgt := 53) hC dX10_init_75 (by decide) ?_
  refine g_iload_n hC dX10_init_53 rfl 0 rfl ?_
  refine g_bipush (v := 13) hC dX10_init_54 (by decide) ?_
  refine gb_icmp_ge_f (tgt := 78) hC dX10_init_56 (by decide) (by decide) ?_
  refine g_aload_n hC dX10_init_59 rfl 1 rfl ?_
  refine g_getR (cj := 17) (k := 3) hC cr10 ui_10 (by decide) (al_R.mpr (Or.inl ht2)) (by decide) fl_X10_26 rfl rfl dX10_init_60 h hf (fun a27 ea27 ka27 na27 h => ?_)
  refine g_iload_n hC dX10_init_63 rfl 0 rfl ?_
  refine r_new (k := 70) (s := 3853) hC0 hB hO 121 71 3859 rfl rfl rfl cr1 ui_1 tyX1_ok (by decide) kl_X10_16 ki_X1 (gtr_4 _ (List.mem_of_getElem? (i := 21) rfl)) (by decide) (by decide) (by decide) (by decide) dX10_init_64 ?_
  have hC := cx_RO (k := 71) (s := 3859) hC0 hB hO (by decide) (by decide) (by decide)
  refine g_dup hC dX10_init_67 rfl ?_
  obtain ⟨q28, hq28, h⟩ := bd_of h hf
  refine r_cM (na := 0) (k := 71) (s := 3859) (As := []) hC0 hB hO hao 74 4123 rfl rfl rfl (c_X1_init_121 (eR E 51 71) hC.2.2.2.2.2.2.1 (al_R.mpr (Or.inr (by decide)))  (fun j h1 h2 => fr_R hB j (by omega) (by omega)) (fun j h1 h2 => by have z1 := hB.2.1 j (by omega) (by omega); have z2 := hB.2.1 122 (by omega) (by omega); show E.2.2.1 j + 122 = E.2.2.1 122 + j; omega) hB.2.2.1 (sN (sR q26 a25 (11 : Int32).toNatClampNeg (some 117)) 121) (nn_of hq28)) rfl (gi_I wc_X1_init) (gtr_4 _ (List.mem_of_getElem? (i := 21) rfl)) (hao.2.2 _ (List.mem_of_getElem? (i := 2) rfl)) (gtr_5 _ (List.mem_of_getElem? (i := 2) rfl)) rfl ⟨by decide, by decide, by decide +kernel⟩ rfl rfl (by decide) (by decide) (by decide) (by decide) (by decide) rfl (Nat.le_of_ble_eq_true rfl) dX10_init_68 hq28 (by decide) ?_
  have hC := cx_RO (k := 74) (s := 4123) hC0 hB hO (by decide) (by decide) (by decide)
  refine g_aastC hC ka27 (al_up na27 (by decide)) (by decide) (al_R.mpr (Or.inr (by decide))) dX10_init_71 h hf (fun h => ?_)
  refine g_iinc (v := 13) (lv' := [(1, .int 13), (0, .ref (E.2.2.1 50))]) hC dX10_init_72 0 rfl (by decide) (by decide) rfl ?_
  refine g_goto (tgt := 53) hC dX10_init_75 (by decide) ?_
  refine g_iload_n hC dX10_init_53 rfl 0 rfl ?_
  refine g_bipush (v := 13) hC dX10_init_54 (by decide) ?_
  refine gb_icmp_ge_t (tgt := 78) hC dX10_init_56 (by decide) (by decide) ?_
  exact r_vret hC0 hB hO hR (by decide) (by decide) (by decide) dX10_init_78 h
