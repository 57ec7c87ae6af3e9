def rm_X12_init_0 : Room := { frames := 2, cells := 24, slots := 7985, locals := 68 }
theorem oi_X12_18 : Cond.methodLink RX12 18 objectInit ∈ GT := gtr_8 _ (List.mem_of_getElem? (i := 15) rfl)
theorem ka_int : Cond.arrayClass .int ∈ GT := gtr_3 _ (List.mem_of_getElem? (i := 2) rfl)
theorem ka_long : Cond.arrayClass .long ∈ GT := gtr_1 _ (List.mem_of_getElem? (i := 6) rfl)
theorem cl_X12_34 : Cond.constantLong RX12 34 (615403) ∈ GT := gtr_8 _ (List.mem_of_getElem? (i := 20) rfl)
theorem cl_X12_36 : Cond.constantLong RX12 36 (4160) ∈ GT := gtr_8 _ (List.mem_of_getElem? (i := 21) rfl)
theorem cl_X12_38 : Cond.constantLong RX12 38 (687961) ∈ GT := gtr_8 _ (List.mem_of_getElem? (i := 22) rfl)
theorem cl_X12_40 : Cond.constantLong RX12 40 (679695) ∈ GT := gtr_8 _ (List.mem_of_getElem? (i := 23) rfl)
theorem cl_X12_42 : Cond.constantLong RX12 42 (38660676) ∈ GT := gtr_9 _ (List.mem_of_getElem? (i := 0) rfl)
theorem cl_X12_44 : Cond.constantLong RX12 44 (989988) ∈ GT := gtr_9 _ (List.mem_of_getElem? (i := 1) rfl)
theorem cl_X12_46 : Cond.constantLong RX12 46 (22745289) ∈ GT := gtr_9 _ (List.mem_of_getElem? (i := 2) rfl)
theorem cl_X12_48 : Cond.constantLong RX12 48 (679747) ∈ GT := gtr_9 _ (List.mem_of_getElem? (i := 3) rfl)
theorem cl_X12_50 : Cond.constantLong RX12 50 (149099362) ∈ GT := gtr_9 _ (List.mem_of_getElem? (i := 4) rfl)
theorem cl_X12_54 : Cond.constantLong RX12 54 (3) ∈ GT := gtr_9 _ (List.mem_of_getElem? (i := 6) rfl)
theorem cl_X12_56 : Cond.constantLong RX12 56 (4) ∈ GT := gtr_9 _ (List.mem_of_getElem? (i := 7) rfl)
theorem cl_X12_58 : Cond.constantLong RX12 58 (5) ∈ GT := gtr_9 _ (List.mem_of_getElem? (i := 8) rfl)
theorem cl_X12_60 : Cond.constantLong RX12 60 (6) ∈ GT := gtr_9 _ (List.mem_of_getElem? (i := 9) rfl)
theorem cl_X12_62 : Cond.constantLong RX12 62 (7) ∈ GT := gtr_9 _ (List.mem_of_getElem? (i := 10) rfl)
theorem cl_X12_64 : Cond.constantLong RX12 64 (8) ∈ GT := gtr_9 _ (List.mem_of_getElem? (i := 11) rfl)
theorem ka_boolean : Cond.arrayClass .boolean ∈ GT := gtr_9 _ (List.mem_of_getElem? (i := 13) rfl)
set_option maxHeartbeats 4000000 in
set_option maxRecDepth 100000 in
theorem c_X12_init_0 (E : ET) (hE : EO E) (ht2 : AL E 0) (hb1 : ∀ j, 1 ≤ j → j < 25 → ¬ AL E j) (hb2 : ∀ j, 1 ≤ j → j < 25 → E.2.2.1 j + 1 = E.2.2.1 1 + j) (hb3 : ∀ i j, E.2.2.1 i = E.2.2.1 j → i = j) (σ : HS) (hf : f_X12_init_0 σ ≠ none) : CoN E 1 24 7985 yX12_init w_X12_init rm_X12_init_0 [.ref (E.2.2.1 0)] σ (f_X12_init_0 σ) := by
  refine CoN.of (lv := [(0, .ref (E.2.2.1 0))]) (n := 1) (b := 25) (mc := 24) (ms := 7985) hE (plainFor_of_name (by decide)) rfl rfl (Nat.le_of_ble_eq_true rfl) rfl hb1 hb2 hb3 ?_
  intro F hC0 hB hO hR hin hao
  generalize hfo : f_X12_init_0 σ = fo at hf hR
  have h := hfo
  have hC := cx_RO (k := 0) (s := 0) hC0 hB hO (by decide) (by decide) (by decide)
  refine g_aload_n hC dX12_init_0 rfl 0 rfl ?_
  refine g_obj hC hO oi_X12_18 (gtr_1 _ (List.mem_of_getElem? (i := 12) rfl)) (gtr_1 _ (List.mem_of_getElem? (i := 13) rfl)) dX12_init_1 (by decide) (by decide) ?_
  refine g_aload_n hC dX12_init_4 rfl 0 rfl ?_
  refine g_sipush (v := 1000) hC dX12_init_5 (by decide) ?_
  refine r_newa (k := 0) (s := 0) (N := 1000) (len := 2) hC0 hB hO 1 1 1000 rfl rfl rfl (by decide) (by decide) (by decide) (fun hC h1 h2 h3 h4 h5 kk => g_newI hC (by decide) ka_int (by decide) (by decide) (by decide) (by decide) h1 h2 h3 h4 h5 dX12_init_8 kk) ?_
  have hC := cx_RO (k := 1) (s := 1000) hC0 hB hO (by decide) (by decide) (by decide)
  refine g_putRF (k := 1) hC hin cr12 ui_12 tyX12_ok nmX12 (by decide) (al_R.mpr (Or.inl ht2)) (al_R.mpr (Or.inr (by decide))) (by decide) fl_X12_14 rfl rfl rfl rfl rfl dX12_init_10 ?_
  refine g_aload_n hC dX12_init_13 rfl 0 rfl ?_
  refine g_sipush (v := 1002) hC dX12_init_14 (by decide) ?_
  refine r_newa (k := 1) (s := 1000) (N := 1002) (len := 2) hC0 hB hO 2 2 2002 rfl rfl rfl (by decide) (by decide) (by decide) (fun hC h1 h2 h3 h4 h5 kk => g_newI hC (by decide) ka_int (by decide) (by decide) (by decide) (by decide) h1 h2 h3 h4 h5 dX12_init_17 kk) ?_
  have hC := cx_RO (k := 2) (s := 2002) hC0 hB hO (by decide) (by decide) (by decide)
  refine g_putRF (k := 4) hC hin cr12 ui_12 tyX12_ok nmX12 (by decide) (al_R.mpr (Or.inl ht2)) (al_R.mpr (Or.inr (by decide))) (by decide) fl_X12_24 rfl rfl rfl rfl rfl dX12_init_19 ?_
  refine g_aload_n hC dX12_init_22 rfl 0 rfl ?_
  refine g_sipush (v := 1002) hC dX12_init_23 (by decide) ?_
  refine r_newa (k := 2) (s := 2002) (N := 1002) (len := 2) hC0 hB hO 3 3 3004 rfl rfl rfl (by decide) (by decide) (by decide) (fun hC h1 h2 h3 h4 h5 kk => g_newI hC (by decide) ka_int (by decide) (by decide) (by decide) (by decide) h1 h2 h3 h4 h5 dX12_init_26 kk) ?_
  have hC := cx_RO (k := 3) (s := 3004) hC0 hB hO (by decide) (by decide) (by decide)
  refine g_putRF (k := 5) hC hin cr12 ui_12 tyX12_ok nmX12 (by decide) (al_R.mpr (Or.inl ht2)) (al_R.mpr (Or.inr (by decide))) (by decide) fl_X12_27 rfl rfl rfl rfl rfl dX12_init_28 ?_
  refine g_aload_n hC dX12_init_31 rfl 0 rfl ?_
  refine g_sipush (v := 1002) hC dX12_init_32 (by decide) ?_
  refine r_newa (k := 3) (s := 3004) (N := 1002) (len := 2) hC0 hB hO 4 4 4006 rfl rfl rfl (by decide) (by decide) (by decide) (fun hC h1 h2 h3 h4 h5 kk => g_newJ hC (by decide) ka_long (by decide) (by decide) (by decide) (by decide) h1 h2 h3 h4 h5 dX12_init_35 kk) ?_
  have hC := cx_RO (k := 4) (s := 4006) hC0 hB hO (by decide) (by decide) (by decide)
  refine g_putRF (k := 6) hC hin cr12 ui_12 tyX12_ok nmX12 (by decide) (al_R.mpr (Or.inl ht2)) (al_R.mpr (Or.inr (by decide))) (by decide) fl_X12_30 rfl rfl rfl rfl rfl dX12_init_37 ?_
  refine g_aload_n hC dX12_init_40 rfl 0 rfl ?_
  refine g_bipush (v := 17) hC dX12_init_41 (by decide) ?_
  refine r_newa (k := 4) (s := 4006) (N := 17) (len := 2) hC0 hB hO 5 5 4023 rfl rfl rfl (by decide) (by decide) (by decide) (fun hC h1 h2 h3 h4 h5 kk => g_newJ hC (by decide) ka_long (by decide) (by decide) (by decide) (by decide) h1 h2 h3 h4 h5 dX12_init_43 kk) ?_
  have hC := cx_RO (k := 5) (s := 4023) hC0 hB hO (by decide) (by decide) (by decide)
  refine g_dup hC dX12_init_45 rfl ?_
  refine g_iconst (v := 0) hC dX12_init_46 (by decide) ?_
  refine g_ldc2 (v := 615403) hC cl_X12_34 dX12_init_47 ?_
  refine g_last hC (by decide) (al_R.mpr (Or.inr (by decide))) dX12_init_50 h hf (fun h => ?_)
  refine g_dup hC dX12_init_51 rfl ?_
  refine g_iconst (v := 1) hC dX12_init_52 (by decide) ?_
  refine g_ldc2 (v := 4160) hC cl_X12_36 dX12_init_53 ?_
  refine g_last hC (by decide) (al_R.mpr (Or.inr (by decide))) dX12_init_56 h hf (fun h => ?_)
  refine g_dup hC dX12_init_57 rfl ?_
  refine g_iconst (v := 2) hC dX12_init_58 (by decide) ?_
  refine g_ldc2 (v := 687961) hC cl_X12_38 dX12_init_59 ?_
  refine g_last hC (by decide) (al_R.mpr (Or.inr (by decide))) dX12_init_62 h hf (fun h => ?_)
  refine g_dup hC dX12_init_63 rfl ?_
  refine g_iconst (v := 3) hC dX12_init_64 (by decide) ?_
  refine g_ldc2 (v := 679695) hC cl_X12_40 dX12_init_65 ?_
  refine g_last hC (by decide) (al_R.mpr (Or.inr (by decide))) dX12_init_68 h hf (fun h => ?_)
  refine g_dup hC dX12_init_69 rfl ?_
  refine g_iconst (v := 4) hC dX12_init_70 (by decide) ?_
  refine g_ldc2 (v := 38660676) hC cl_X12_42 dX12_init_71 ?_
  refine g_last hC (by decide) (al_R.mpr (Or.inr (by decide))) dX12_init_74 h hf (fun h => ?_)
  refine g_dup hC dX12_init_75 rfl ?_
  refine g_iconst (v := 5) hC dX12_init_76 (by decide) ?_
  refine g_ldc2 (v := 989988) hC cl_X12_44 dX12_init_77 ?_
  refine g_last hC (by decide) (al_R.mpr (Or.inr (by decide))) dX12_init_80 h hf (fun h => ?_)
  refine g_dup hC dX12_init_81 rfl ?_
  refine g_bipush (v := 6) hC dX12_init_82 (by decide) ?_
  refine g_ldc2 (v := 22745289) hC cl_X12_46 dX12_init_84 ?_
  refine g_last hC (by decide) (al_R.mpr (Or.inr (by decide))) dX12_init_87 h hf (fun h => ?_)
  refine g_dup hC dX12_init_88 rfl ?_
  refine g_bipush (v := 7) hC dX12_init_89 (by decide) ?_
  refine g_ldc2 (v := 679747) hC cl_X12_48 dX12_init_91 ?_
  refine g_last hC (by decide) (al_R.mpr (Or.inr (by decide))) dX12_init_94 h hf (fun h => ?_)
  refine g_dup hC dX12_init_95 rfl ?_
  refine g_bipush (v := 8) hC dX12_init_96 (by decide) ?_
  refine g_ldc2 (v := 149099362) hC cl_X12_50 dX12_init_98 ?_
  refine g_last hC (by decide) (al_R.mpr (Or.inr (by decide))) dX12_init_101 h hf (fun h => ?_)
  refine g_dup hC dX12_init_102 rfl ?_
  refine g_bipush (v := 9) hC dX12_init_103 (by decide) ?_
  refine g_lconst (v := 1) hC dX12_init_105 (by decide) ?_
  refine g_last hC (by decide) (al_R.mpr (Or.inr (by decide))) dX12_init_106 h hf (fun h => ?_)
  refine g_dup hC dX12_init_107 rfl ?_
  refine g_bipush (v := 10) hC dX12_init_108 (by decide) ?_
  refine g_ldc2 (v := 2) hC cl_X12_52 dX12_init_110 ?_
  refine g_last hC (by decide) (al_R.mpr (Or.inr (by decide))) dX12_init_113 h hf (fun h => ?_)
  refine g_dup hC dX12_init_114 rfl ?_
  refine g_bipush (v := 11) hC dX12_init_115 (by decide) ?_
  refine g_ldc2 (v := 3) hC cl_X12_54 dX12_init_117 ?_
  refine g_last hC (by decide) (al_R.mpr (Or.inr (by decide))) dX12_init_120 h hf (fun h => ?_)
  refine g_dup hC dX12_init_121 rfl ?_
  refine g_bipush (v := 12) hC dX12_init_122 (by decide) ?_
  refine g_ldc2 (v := 4) hC cl_X12_56 dX12_init_124 ?_
  refine g_last hC (by decide) (al_R.mpr (Or.inr (by decide))) dX12_init_127 h hf (fun h => ?_)
  refine g_dup hC dX12_init_128 rfl ?_
  refine g_bipush (v := 13) hC dX12_init_129 (by decide) ?_
  refine g_ldc2 (v := 5) hC cl_X12_58 dX12_init_131 ?_
  refine g_last hC (by decide) (al_R.mpr (Or.inr (by decide))) dX12_init_134 h hf (fun h => ?_)
  refine g_dup hC dX12_init_135 rfl ?_
  refine g_bipush (v := 14) hC dX12_init_136 (by decide) ?_
  refine g_ldc2 (v := 6) hC cl_X12_60 dX12_init_138 ?_
  refine g_last hC (by decide) (al_R.mpr (Or.inr (by decide))) dX12_init_141 h hf (fun h => ?_)
  refine g_dup hC dX12_init_142 rfl ?_
  refine g_bipush (v := 15) hC dX12_init_143 (by decide) ?_
  refine g_ldc2 (v := 7) hC cl_X12_62 dX12_init_145 ?_
  refine g_last hC (by decide) (al_R.mpr (Or.inr (by decide))) dX12_init_148 h hf (fun h => ?_)
  refine g_dup hC dX12_init_149 rfl ?_
  refine g_bipush (v := 16) hC dX12_init_150 (by decide) ?_
  refine g_ldc2 (v := 8) hC cl_X12_64 dX12_init_152 ?_
  refine g_last hC (by decide) (al_R.mpr (Or.inr (by decide))) dX12_init_155 h hf (fun h => ?_)
  refine g_putRF (k := 9) hC hin cr12 ui_12 tyX12_ok nmX12 (by decide) (al_R.mpr (Or.inl ht2)) (al_R.mpr (Or.inr (by decide))) (by decide) fl_X12_66 rfl rfl rfl rfl rfl dX12_init_156 ?_
  refine g_aload_n hC dX12_init_159 rfl 0 rfl ?_
  refine g_bipush (v := 8) hC dX12_init_160 (by decide) ?_
  refine r_newa (k := 5) (s := 4023) (N := 8) (len := 2) hC0 hB hO 6 6 4031 rfl rfl rfl (by decide) (by decide) (by decide) (fun hC h1 h2 h3 h4 h5 kk => g_newZ hC (by decide) ka_boolean (by decide) (by decide) (by decide) (by decide) h1 h2 h3 h4 h5 dX12_init_162 kk) ?_
  have hC := cx_RO (k := 6) (s := 4031) hC0 hB hO (by decide) (by decide) (by decide)
  refine g_putRF (k := 10) hC hin cr12 ui_12 tyX12_ok nmX12 (by decide) (al_R.mpr (Or.inl ht2)) (al_R.mpr (Or.inr (by decide))) (by decide) fl_X12_69 rfl rfl rfl rfl rfl dX12_init_164 ?_
  refine g_aload_n hC dX12_init_167 rfl 0 rfl ?_
  refine g_bipush (v := 8) hC dX12_init_168 (by decide) ?_
  refine r_newa (k := 6) (s := 4031) (N := 8) (len := 2) hC0 hB hO 7 7 4039 rfl rfl rfl (by decide) (by decide) (by decide) (fun hC h1 h2 h3 h4 h5 kk => g_newI hC (by decide) ka_int (by decide) (by decide) (by decide) (by decide) h1 h2 h3 h4 h5 dX12_init_170 kk) ?_
  have hC := cx_RO (k := 7) (s := 4039) hC0 hB hO (by decide) (by decide) (by decide)
  refine g_putRF (k := 11) hC hin cr12 ui_12 tyX12_ok nmX12 (by decide) (al_R.mpr (Or.inl ht2)) (al_R.mpr (Or.inr (by decide))) (by decide) fl_X12_73 rfl rfl rfl rfl rfl dX12_init_172 ?_
  refine g_aload_n hC dX12_init_175 rfl 0 rfl ?_
  refine g_bipush (v := 8) hC dX12_init_176 (by decide) ?_
  refine r_newa (k := 7) (s := 4039) (N := 8) (len := 2) hC0 hB hO 8 8 4047 rfl rfl rfl (by decide) (by decide) (by decide) (fun hC h1 h2 h3 h4 h5 kk => g_newI hC (by decide) ka_int (by decide) (by decide) (by decide) (by decide) h1 h2 h3 h4 h5 dX12_init_178 kk) ?_
  have hC := cx_RO (k := 8) (s := 4047) hC0 hB hO (by decide) (by decide) (by decide)
  refine g_putRF (k := 12) hC hin cr12 ui_12 tyX12_ok nmX12 (by decide) (al_R.mpr (Or.inl ht2)) (al_R.mpr (Or.inr (by decide))) (by decide) fl_X12_76 rfl rfl rfl rfl rfl dX12_init_180 ?_
  refine g_aload_n hC dX12_init_183 rfl 0 rfl ?_
  refine g_iconst (v := 2) hC dX12_init_184 (by decide) ?_
  refine r_newa (k := 8) (s := 4047) (N := 2) (len := 2) hC0 hB hO 9 9 4049 rfl rfl rfl (by decide) (by decide) (by decide) (fun hC h1 h2 h3 h4 h5 kk => g_newI hC (by decide) ka_int (by decide) (by decide) (by decide) (by decide) h1 h2 h3 h4 h5 dX12_init_185 kk) ?_
  have hC := cx_RO (k := 9) (s := 4049) hC0 hB hO (by decide) (by decide) (by decide)
  refine g_putRF (k := 13) hC hin cr12 ui_12 tyX12_ok nmX12 (by decide) (al_R.mpr (Or.inl ht2)) (al_R.mpr (Or.inr (by decide))) (by decide) fl_X12_79 rfl rfl rfl rfl rfl dX12_init_187 ?_
  refine g_aload_n hC dX12_init_190 rfl 0 rfl ?_
  refine g_bipush (v := 24) hC dX12_init_191 (by decide) ?_
  refine r_newa (k := 9) (s := 4049) (N := 24) (len := 2) hC0 hB hO 10 10 4073 rfl rfl rfl (by decide) (by decide) (by decide) (fun hC h1 h2 h3 h4 h5 kk => g_newI hC (by decide) ka_int (by decide) (by decide) (by decide) (by decide) h1 h2 h3 h4 h5 dX12_init_193 kk) ?_
  have hC := cx_RO (k := 10) (s := 4073) hC0 hB hO (by decide) (by decide) (by decide)
  refine g_putRF (k := 14) hC hin cr12 ui_12 tyX12_ok nmX12 (by decide) (al_R.mpr (Or.inl ht2)) (al_R.mpr (Or.inr (by decide))) (by decide) fl_X12_82 rfl rfl rfl rfl rfl dX12_init_195 ?_
  refine g_aload_n hC dX12_init_198 rfl 0 rfl ?_
  refine g_bipush (v := 24) hC dX12_init_199 (by decide) ?_
  refine r_newa (k := 10) (s := 4073) (N := 24) (len := 2) hC0 hB hO 11 11 4097 rfl rfl rfl (by decide) (by decide) (by decide) (fun hC h1 h2 h3 h4 h5 kk => g_newI hC (by decide) ka_int (by decide) (by decide) (by decide) (by decide) h1 h2 h3 h4 h5 dX12_init_201 kk) ?_
  have hC := cx_RO (k := 11) (s := 4097) hC0 hB hO (by decide) (by decide) (by decide)
  refine g_putRF (k := 15) hC hin cr12 ui_12 tyX12_ok nmX12 (by decide) (al_R.mpr (Or.inl ht2)) (al_R.mpr (Or.inr (by decide))) (by decide) fl_X12_85 rfl rfl rfl rfl rfl dX12_init_203 ?_
  refine g_aload_n hC dX12_init_206 rfl 0 rfl ?_
  refine g_bipush (v := 24) hC dX12_init_207 (by decide) ?_
  refine r_newa (k := 11) (s := 4097) (N := 24) (len := 2) hC0 hB hO 12 12 4121 rfl rfl rfl (by decide) (by decide) (by decide) (fun hC h1 h2 h3 h4 h5 kk => g_newI hC (by decide) ka_int (by decide) (by decide) (by decide) (by decide) h1 h2 h3 h4 h5 dX12_init_209 kk) ?_
  have hC := cx_RO (k := 12) (s := 4121) hC0 hB hO (by decide) (by decide) (by decide)
  refine g_putRF (k := 16) hC hin cr12 ui_12 tyX12_ok nmX12 (by decide) (al_R.mpr (Or.inl ht2)) (al_R.mpr (Or.inr (by decide))) (by decide) fl_X12_88 rfl rfl rfl rfl rfl dX12_init_211 ?_
  refine g_aload_n hC dX12_init_214 rfl 0 rfl ?_
  refine g_bipush (v := 24) hC dX12_init_215 (by decide) ?_
  refine r_newa (k := 12) (s := 4121) (N := 24) (len := 2) hC0 hB hO 13 13 4145 rfl rfl rfl (by decide) (by decide) (by decide) (fun hC h1 h2 h3 h4 h5 kk => g_newI hC (by decide) ka_int (by decide) (by decide) (by decide) (by decide) h1 h2 h3 h4 h5 dX12_init_217 kk) ?_
  have hC := cx_RO (k := 13) (s := 4145) hC0 hB hO (by decide) (by decide) (by decide)
  refine g_putRF (k := 17) hC hin cr12 ui_12 tyX12_ok nmX12 (by decide) (al_R.mpr (Or.inl ht2)) (al_R.mpr (Or.inr (by decide))) (by decide) fl_X12_91 rfl rfl rfl rfl rfl dX12_init_219 ?_
  refine g_aload_n hC dX12_init_222 rfl 0 rfl ?_
  refine g_bipush (v := 24) hC dX12_init_223 (by decide) ?_
  refine r_newa (k := 13) (s := 4145) (N := 24) (len := 2) hC0 hB hO 14 14 4169 rfl rfl rfl (by decide) (by decide) (by decide) (fun hC h1 h2 h3 h4 h5 kk => g_newI hC (by decide) ka_int (by decide) (by decide) (by decide) (by decide) h1 h2 h3 h4 h5 dX12_init_225 kk) ?_
  have hC := cx_RO (k := 14) (s := 4169) hC0 hB hO (by decide) (by decide) (by decide)
  refine g_putRF (k := 18) hC hin cr12 ui_12 tyX12_ok nmX12 (by decide) (al_R.mpr (Or.inl ht2)) (al_R.mpr (Or.inr (by decide))) (by decide) fl_X12_94 rfl rfl rfl rfl rfl dX12_init_227 ?_
  refine g_aload_n hC dX12_init_230 rfl 0 rfl ?_
  refine g_bipush (v := 24) hC dX12_init_231 (by decide) ?_
  refine r_newa (k := 14) (s := 4169) (N := 24) (len := 2) hC0 hB hO 15 15 4193 rfl rfl rfl (by decide) (by decide) (by decide) (fun hC h1 h2 h3 h4 h5 kk => g_newI hC (by decide) ka_int (by decide) (by decide) (by decide) (by decide) h1 h2 h3 h4 h5 dX12_init_233 kk) ?_
  have hC := cx_RO (k := 15) (s := 4193) hC0 hB hO (by decide) (by decide) (by decide)
  refine g_putRF (k := 19) hC hin cr12 ui_12 tyX12_ok nmX12 (by decide) (al_R.mpr (Or.inl ht2)) (al_R.mpr (Or.inr (by decide))) (by decide) fl_X12_97 rfl rfl rfl rfl rfl dX12_init_235 ?_
  refine g_aload_n hC dX12_init_238 rfl 0 rfl ?_
  refine g_bipush (v := 8) hC dX12_init_239 (by decide) ?_
  refine r_newa (k := 15) (s := 4193) (N := 8) (len := 2) hC0 hB hO 16 16 4201 rfl rfl rfl (by decide) (by decide) (by decide) (fun hC h1 h2 h3 h4 h5 kk => g_newZ hC (by decide) ka_boolean (by decide) (by decide) (by decide) (by decide) h1 h2 h3 h4 h5 dX12_init_241 kk) ?_
  have hC := cx_RO (k := 16) (s := 4201) hC0 hB hO (by decide) (by decide) (by decide)
  refine g_putRF (k := 21) hC hin cr12 ui_12 tyX12_ok nmX12 (by decide) (al_R.mpr (Or.inl ht2)) (al_R.mpr (Or.inr (by decide))) (by decide) fl_X12_100 rfl rfl rfl rfl rfl dX12_init_243 ?_
  refine g_aload_n hC dX12_init_246 rfl 0 rfl ?_
  refine g_bipush (v := 32) hC dX12_init_247 (by decide) ?_
  refine r_newa (k := 16) (s := 4201) (N := 32) (len := 2) hC0 hB hO 17 17 4233 rfl rfl rfl (by decide) (by decide) (by decide) (fun hC h1 h2 h3 h4 h5 kk => g_newI hC (by decide) ka_int (by decide) (by decide) (by decide) (by decide) h1 h2 h3 h4 h5 dX12_init_249 kk) ?_
  have hC := cx_RO (k := 17) (s := 4233) hC0 hB hO (by decide) (by decide) (by decide)
  refine g_putRF (k := 22) hC hin cr12 ui_12 tyX12_ok nmX12 (by decide) (al_R.mpr (Or.inl ht2)) (al_R.mpr (Or.inr (by decide))) (by decide) fl_X12_103 rfl rfl rfl rfl rfl dX12_init_251 ?_
  refine g_aload_n hC dX12_init_254 rfl 0 rfl ?_
  refine g_bipush (v := 8) hC dX12_init_255 (by decide) ?_
  refine r_newa (k := 17) (s := 4233) (N := 8) (len := 2) hC0 hB hO 18 18 4241 rfl rfl rfl (by decide) (by decide) (by decide) (fun hC h1 h2 h3 h4 h5 kk => g_newI hC (by decide) ka_int (by decide) (by decide) (by decide) (by decide) h1 h2 h3 h4 h5 dX12_init_257 kk) ?_
  have hC := cx_RO (k := 18) (s := 4241) hC0 hB hO (by decide) (by decide) (by decide)
  refine g_putRF (k := 25) hC hin cr12 ui_12 tyX12_ok nmX12 (by decide) (al_R.mpr (Or.inl ht2)) (al_R.mpr (Or.inr (by decide))) (by decide) fl_X12_106 rfl rfl rfl rfl rfl dX12_init_259 ?_
  refine g_aload_n hC dX12_init_262 rfl 0 rfl ?_
  refine g_sipush (v := 256) hC dX12_init_263 (by decide) ?_
  refine r_newa (k := 18) (s := 4241) (N := 256) (len := 2) hC0 hB hO 19 19 4497 rfl rfl rfl (by decide) (by decide) (by decide) (fun hC h1 h2 h3 h4 h5 kk => g_newJ hC (by decide) ka_long (by decide) (by decide) (by decide) (by decide) h1 h2 h3 h4 h5 dX12_init_266 kk) ?_
  have hC := cx_RO (k := 19) (s := 4497) hC0 hB hO (by decide) (by decide) (by decide)
  refine g_putRF (k := 27) hC hin cr12 ui_12 tyX12_ok nmX12 (by decide) (al_R.mpr (Or.inl ht2)) (al_R.mpr (Or.inr (by decide))) (by decide) fl_X12_109 rfl rfl rfl rfl rfl dX12_init_268 ?_
  refine g_aload_n hC dX12_init_271 rfl 0 rfl ?_
  refine g_bipush (v := 12) hC dX12_init_272 (by decide) ?_
  refine r_newa (k := 19) (s := 4497) (N := 12) (len := 2) hC0 hB hO 20 20 4509 rfl rfl rfl (by decide) (by decide) (by decide) (fun hC h1 h2 h3 h4 h5 kk => g_newI hC (by decide) ka_int (by decide) (by decide) (by decide) (by decide) h1 h2 h3 h4 h5 dX12_init_274 kk) ?_
  have hC := cx_RO (k := 20) (s := 4509) hC0 hB hO (by decide) (by decide) (by decide)
  refine g_putRF (k := 28) hC hin cr12 ui_12 tyX12_ok nmX12 (by decide) (al_R.mpr (Or.inl ht2)) (al_R.mpr (Or.inr (by decide))) (by decide) fl_X12_112 rfl rfl rfl rfl rfl dX12_init_276 ?_
  refine g_aload_n hC dX12_init_279 rfl 0 rfl ?_
  refine g_bipush (v := 12) hC dX12_init_280 (by decide) ?_
  refine r_newa (k := 20) (s := 4509) (N := 12) (len := 2) hC0 hB hO 21 21 4521 rfl rfl rfl (by decide) (by decide) (by decide) (fun hC h1 h2 h3 h4 h5 kk => g_newI hC (by decide) ka_int (by decide) (by decide) (by decide) (by decide) h1 h2 h3 h4 h5 dX12_init_282 kk) ?_
  have hC := cx_RO (k := 21) (s := 4521) hC0 hB hO (by decide) (by decide) (by decide)
  refine g_putRF (k := 29) hC hin cr12 ui_12 tyX12_ok nmX12 (by decide) (al_R.mpr (Or.inl ht2)) (al_R.mpr (Or.inr (by decide))) (by decide) fl_X12_115 rfl rfl rfl rfl rfl dX12_init_284 ?_
  refine g_aload_n hC dX12_init_287 rfl 0 rfl ?_
  refine g_sipush (v := 3456) hC dX12_init_288 (by decide) ?_
  refine r_newa (k := 21) (s := 4521) (N := 3456) (len := 2) hC0 hB hO 22 22 7977 rfl rfl rfl (by decide) (by decide) (by decide) (fun hC h1 h2 h3 h4 h5 kk => g_newJ hC (by decide) ka_long (by decide) (by decide) (by decide) (by decide) h1 h2 h3 h4 h5 dX12_init_291 kk) ?_
  have hC := cx_RO (k := 22) (s := 7977) hC0 hB hO (by decide) (by decide) (by decide)
  refine g_putRF (k := 30) hC hin cr12 ui_12 tyX12_ok nmX12 (by decide) (al_R.mpr (Or.inl ht2)) (al_R.mpr (Or.inr (by decide))) (by decide) fl_X12_118 rfl rfl rfl rfl rfl dX12_init_293 ?_
  refine g_aload_n hC dX12_init_296 rfl 0 rfl ?_
  refine g_iconst (v := 4) hC dX12_init_297 (by decide) ?_
  refine r_newa (k := 22) (s := 7977) (N := 4) (len := 2) hC0 hB hO 23 23 7981 rfl rfl rfl (by decide) (by decide) (by decide) (fun hC h1 h2 h3 h4 h5 kk => g_newJ hC (by decide) ka_long (by decide) (by decide) (by decide) (by decide) h1 h2 h3 h4 h5 dX12_init_298 kk) ?_
  have hC := cx_RO (k := 23) (s := 7981) hC0 hB hO (by decide) (by decide) (by decide)
  refine g_putRF (k := 31) hC hin cr12 ui_12 tyX12_ok nmX12 (by decide) (al_R.mpr (Or.inl ht2)) (al_R.mpr (Or.inr (by decide))) (by decide) fl_X12_121 rfl rfl rfl rfl rfl dX12_init_300 ?_
  refine g_aload_n hC dX12_init_303 rfl 0 rfl ?_
  refine g_iconst (v := (-1)) hC dX12_init_304 (by decide) ?_
  refine g_putI (k := 32) hC cr12 ui_12 tyX12_ok nmX12 (by decide) (al_R.mpr (Or.inl ht2)) (by decide) fl_X12_124 rfl rfl rfl rfl dX12_init_305 ?_
  refine g_aload_n hC dX12_init_308 rfl 0 rfl ?_
  refine g_iconst (v := 4) hC dX12_init_309 (by decide) ?_
  refine r_newa (k := 23) (s := 7981) (N := 4) (len := 2) hC0 hB hO 24 24 7985 rfl rfl rfl (by decide) (by decide) (by decide) (fun hC h1 h2 h3 h4 h5 kk => g_newJ hC (by decide) ka_long (by decide) (by decide) (by decide) (by decide) h1 h2 h3 h4 h5 dX12_init_310 kk) ?_
  have hC := cx_RO (k := 24) (s := 7985) hC0 hB hO (by decide) (by decide) (by decide)
  refine g_putRF (k := 35) hC hin cr12 ui_12 tyX12_ok nmX12 (by decide) (al_R.mpr (Or.inl ht2)) (al_R.mpr (Or.inr (by decide))) (by decide) fl_X12_127 rfl rfl rfl rfl rfl dX12_init_312 ?_
  refine g_aload_n hC dX12_init_315 rfl 0 rfl ?_
  refine g_iconst (v := 3) hC dX12_init_316 (by decide) ?_
  obtain ⟨q1, hq1, h⟩ := bd_of h hf
  refine g_cVV (As := [.int 3]) hC hO (c_X12_clears _ hC.2.2.2.2.2.2.1 0 (by decide) (al_R.mpr (Or.inl ht2)) 3 (sR (sN (sI (sR (sN (sR (sN (sR (sN (sR (sN (sR (sN (sR (sN (sR (sN (sR (sN (sR (sN (sR (sN (sR (sN (sR (sN (sR (sN (sR (sN (sR (sN (sR (sN (sR (sN (sR (sN (sR (sJ (sJ (sJ (sJ (sJ (sJ (sJ (sJ (sJ (sJ (sJ (sJ (sJ (sJ (sJ (sJ (sJ (sN (sR (sN (sR (sN (sR (sN (sR (sN σ 1) 0 1 (some 1)) 2) 0 4 (some 2)) 3) 0 5 (some 3)) 4) 0 6 (some 4)) 5) 5 (0 : Int32).toNatClampNeg 615403) 5 (1 : Int32).toNatClampNeg 4160) 5 (2 : Int32).toNatClampNeg 687961) 5 (3 : Int32).toNatClampNeg 679695) 5 (4 : Int32).toNatClampNeg 38660676) 5 (5 : Int32).toNatClampNeg 989988) 5 (6 : Int32).toNatClampNeg 22745289) 5 (7 : Int32).toNatClampNeg 679747) 5 (8 : Int32).toNatClampNeg 149099362) 5 (9 : Int32).toNatClampNeg 1) 5 (10 : Int32).toNatClampNeg 2) 5 (11 : Int32).toNatClampNeg 3) 5 (12 : Int32).toNatClampNeg 4) 5 (13 : Int32).toNatClampNeg 5) 5 (14 : Int32).toNatClampNeg 6) 5 (15 : Int32).toNatClampNeg 7) 5 (16 : Int32).toNatClampNeg 8) 0 9 (some 5)) 6) 0 10 (some 6)) 7) 0 11 (some 7)) 8) 0 12 (some 8)) 9) 0 13 (some 9)) 10) 0 14 (some 10)) 11) 0 15 (some 11)) 12) 0 16 (some 12)) 13) 0 17 (some 13)) 14) 0 18 (some 14)) 15) 0 19 (some 15)) 16) 0 21 (some 16)) 17) 0 22 (some 17)) 18) 0 25 (some 18)) 19) 0 27 (some 19)) 20) 0 28 (some 20)) 21) 0 29 (some 21)) 22) 0 30 (some 22)) 23) 0 31 (some 23)) 0 32 (-1)) 24) 0 35 (some 24)) (nn_of hq1)) gc_X12_130 (xk_X12_clears _ (Nat.le_of_ble_eq_true rfl) (Nat.le_of_ble_eq_true rfl)) cr12 (by decide) (al_R.mpr (Or.inl ht2)) rfl (Nat.le_of_ble_eq_true rfl) dX12_init_317 hq1 ?_
  exact r_vret hC0 hB hO hR (by decide) (by decide) (by decide) dX12_init_320 h
def rm_X8_init_27 : Room := { frames := 1, cells := 1, slots := 1000, locals := 20 }
theorem oi_X8_3 : Cond.methodLink RX8 3 objectInit ∈ GT := gtr_3 _ (List.mem_of_getElem? (i := 14) rfl)
theorem ka_byte : Cond.arrayClass .byte ∈ GT := gtr_3 _ (List.mem_of_getElem? (i := 15) rfl)
set_option maxHeartbeats 4000000 in
set_option maxRecDepth 100000 in
theorem c_X8_init_27 (E : ET) (hE : EO E) (ht2 : AL E 27) (hb1 : ∀ j, 28 ≤ j → j < 29 → ¬ AL E j) (hb2 : ∀ j, 28 ≤ j → j < 29 → E.2.2.1 j + 28 = E.2.2.1 28 + j) (hb3 : ∀ i j, E.2.2.1 i = E.2.2.1 j → i = j) (σ : HS) (hf : f_X8_init_27 σ ≠ none) : CoN E 28 1 1000 yX8_init w_X8_init rm_X8_init_27 [.ref (E.2.2.1 27)] σ (f_X8_init_27 σ) := by
  refine CoN.of (lv := [(0, .ref (E.2.2.1 27))]) (n := 28) (b := 29) (mc := 1) (ms := 1000) hE (plainFor_of_name (by decide)) rfl rfl (Nat.le_of_ble_eq_true rfl) rfl hb1 hb2 hb3 ?_
  intro F hC0 hB hO hR hin hao
  generalize hfo : f_X8_init_27 σ = fo at hf hR
  have h := hfo
  have hC := cx_RO (k := 0) (s := 0) hC0 hB hO (by decide) (by decide) (by decide)
  refine g_aload_n hC dX8_init_0 rfl 0 rfl ?_
  refine g_obj hC hO oi_X8_3 (gtr_1 _ (List.mem_of_getElem? (i := 12) rfl)) (gtr_1 _ (List.mem_of_getElem? (i := 13) rfl)) dX8_init_1 (by decide) (by decide) ?_
  refine g_aload_n hC dX8_init_4 rfl 0 rfl ?_
  refine g_sipush (v := 1000) hC dX8_init_5 (by decide) ?_
  refine r_newa (k := 0) (s := 0) (N := 1000) (len := 2) hC0 hB hO 28 1 1000 rfl rfl rfl (by decide) (by decide) (by decide) (fun hC h1 h2 h3 h4 h5 kk => g_newB hC (by decide) ka_byte (by decide) (by decide) (by decide) (by decide) h1 h2 h3 h4 h5 dX8_init_8 kk) ?_
  have hC := cx_RO (k := 1) (s := 1000) hC0 hB hO (by decide) (by decide) (by decide)
  refine g_putRF (k := 0) hC hin cr8 ui_8 tyX8_ok nmX8 (by decide) (al_R.mpr (Or.inl ht2)) (al_R.mpr (Or.inr (by decide))) (by decide) fl_X8_9 rfl rfl rfl rfl rfl dX8_init_10 ?_
  refine g_aload_n hC dX8_init_13 rfl 0 rfl ?_
  refine g_iconst (v := 0) hC dX8_init_14 (by decide) ?_
  refine g_putI (k := 1) hC cr8 ui_8 tyX8_ok nmX8 (by decide) (al_R.mpr (Or.inl ht2)) (by decide) fl_X8_15 rfl rfl rfl rfl dX8_init_15 ?_
  refine g_aload_n hC dX8_init_18 rfl 0 rfl ?_
  refine g_iconst (v := 0) hC dX8_init_19 (by decide) ?_
  refine g_putI (k := 2) hC cr8 ui_8 tyX8_ok nmX8 (by decide) (al_R.mpr (Or.inl ht2)) (by decide) fl_X8_19 rfl rfl rfl rfl dX8_init_20 ?_
  refine g_aload_n hC dX8_init_23 rfl 0 rfl ?_
  refine g_iconst (v := 0) hC dX8_init_24 (by decide) ?_
  refine g_putI (k := 3) hC cr8 ui_8 tyX8_ok nmX8 (by decide) (al_R.mpr (Or.inl ht2)) (by decide) fl_X8_22 rfl rfl rfl rfl dX8_init_25 ?_
  refine g_aload_n hC dX8_init_28 rfl 0 rfl ?_
  refine g_iconst (v := 0) hC dX8_init_29 (by decide) ?_
  refine g_putI (k := 4) hC cr8 ui_8 tyX8_ok nmX8 (by decide) (al_R.mpr (Or.inl ht2)) (by decide) fl_X8_25 rfl rfl rfl rfl dX8_init_30 ?_
  exact r_vret hC0 hB hO hR (by decide) (by decide) (by decide) dX8_init_33 h
def rm_X6_init_29 : Room := { frames := 1, cells := 0, slots := 0, locals := 20 }
theorem oi_X6_3 : Cond.methodLink RX6 3 objectInit ∈ GT := gtr_4 _ (List.mem_of_getElem? (i := 0) rfl)
set_option maxHeartbeats 4000000 in
set_option maxRecDepth 100000 in
theorem c_X6_init_29 (E : ET) (hE : EO E) (ht2 : AL E 29) (x1 : Nat) (hk1 : kd x1 = 8) (ha1 : AL E x1) (hb1 : ∀ j, 30 ≤ j → j < 30 → ¬ AL E j) (hb2 : ∀ j, 30 ≤ j → j < 30 → E.2.2.1 j + 30 = E.2.2.1 30 + j) (hb3 : ∀ i j, E.2.2.1 i = E.2.2.1 j → i = j) (σ : HS) (hf : f_X6_init_29 x1 σ ≠ none) : CoN E 30 0 0 yX6_init w_X6_init rm_X6_init_29 [.ref (E.2.2.1 29), .ref (E.2.2.1 x1)] σ (f_X6_init_29 x1 σ) := by
  refine CoN.of (lv := [(0, .ref (E.2.2.1 29)), (1, .ref (E.2.2.1 x1))]) (n := 30) (b := 30) (mc := 0) (ms := 0) hE (plainFor_of_name (by decide)) rfl rfl (Nat.le_of_ble_eq_true rfl) rfl hb1 hb2 hb3 ?_
  intro F hC0 hB hO hR hin hao
  generalize hfo : f_X6_init_29 x1 σ = fo at hf hR
  have h := hfo
  have hC := cx_RO (k := 0) (s := 0) hC0 hB hO (by decide) (by decide) (by decide)
  refine g_aload_n hC dX6_init_0 rfl 0 rfl ?_
  refine g_obj hC hO oi_X6_3 (gtr_1 _ (List.mem_of_getElem? (i := 12) rfl)) (gtr_1 _ (List.mem_of_getElem? (i := 13) rfl)) dX6_init_1 (by decide) (by decide) ?_
  refine g_aload_n hC dX6_init_4 rfl 0 rfl ?_
  refine g_iconst (v := 0) hC dX6_init_5 (by decide) ?_
  refine g_putI (k := 1) hC cr6 ui_6 tyX6_ok nmX6 (by decide) (al_R.mpr (Or.inl ht2)) (by decide) fl_X6_9 rfl rfl rfl rfl dX6_init_6 ?_
  refine g_aload_n hC dX6_init_9 rfl 0 rfl ?_
  refine g_iconst (v := 0) hC dX6_init_10 (by decide) ?_
  refine g_putI (k := 2) hC cr6 ui_6 tyX6_ok nmX6 (by decide) (al_R.mpr (Or.inl ht2)) (by decide) fl_X6_15 rfl rfl rfl rfl dX6_init_11 ?_
  refine g_aload_n hC dX6_init_14 rfl 0 rfl ?_
  refine g_aload_n hC dX6_init_15 rfl 1 rfl ?_
  refine g_putRF (k := 0) hC hin cr6 ui_6 tyX6_ok nmX6 (by decide) (al_R.mpr (Or.inl ht2)) (al_R.mpr (Or.inl ha1)) (by decide) fl_X6_18 rfl rfl rfl rfl rfl dX6_init_16 ?_
  exact r_vret hC0 hB hO hR (by decide) (by decide) (by decide) dX6_init_19 h
def rm_X9_init_30 : Room := { frames := 1, cells := 19, slots := 88, locals := 20 }
theorem oi_X9_3 : Cond.methodLink RX9 3 objectInit ∈ GT := gtr_4 _ (List.mem_of_getElem? (i := 6) rfl)
theorem kl_X9_9 : Cond.classLink RX9 9 "[[I" ∈ GT := gtr_4 _ (List.mem_of_getElem? (i := 7) rfl)
set_option maxHeartbeats 4000000 in
set_option maxRecDepth 100000 in
theorem c_X9_init_30 (E : ET) (hE : EO E) (ht2 : AL E 30) (hb1 : ∀ j, 31 ≤ j → j < 50 → ¬ AL E j) (hb2 : ∀ j, 31 ≤ j → j < 50 → E.2.2.1 j + 31 = E.2.2.1 31 + j) (hb3 : ∀ i j, E.2.2.1 i = E.2.2.1 j → i = j) (σ : HS) (hf : f_X9_init_30 σ ≠ none) : CoN E 31 19 88 yX9_init w_X9_init rm_X9_init_30 [.ref (E.2.2.1 30)] σ (f_X9_init_30 σ) := by
  refine CoN.of (lv := [(0, .ref (E.2.2.1 30))]) (n := 31) (b := 50) (mc := 19) (ms := 88) hE (plainFor_of_name (by decide)) rfl rfl (Nat.le_of_ble_eq_true rfl) rfl hb1 hb2 hb3 ?_
  intro F hC0 hB hO hR hin hao
  generalize hfo : f_X9_init_30 σ = fo at hf hR
  have h := hfo
  have hC := cx_RO (k := 0) (s := 0) hC0 hB hO (by decide) (by decide) (by decide)
  refine g_aload_n hC dX9_init_0 rfl 0 rfl ?_
  refine g_obj hC hO oi_X9_3 (gtr_1 _ (List.mem_of_getElem? (i := 12) rfl)) (gtr_1 _ (List.mem_of_getElem? (i := 13) rfl)) dX9_init_1 (by decide) (by decide) ?_
  refine g_aload_n hC dX9_init_4 rfl 0 rfl ?_
  refine g_bipush (v := 8) hC dX9_init_5 (by decide) ?_
  refine g_iconst (v := 4) hC dX9_init_7 (by decide) ?_
  refine r_mna (k := 0) (s := 0) (N := 8) hC0 hB hO 31 9 40 rfl rfl rfl (by decide) (by decide) (by decide) (by decide) (by decide) (by decide) kl_X9_9 (aoI_use hao.2.1) ka_int (by decide) (by decide) (by decide) (by decide) (by decide) dX9_init_8 ?_
  have hC := cx_RO (k := 9) (s := 40) hC0 hB hO (by decide) (by decide) (by decide)
  refine g_putRF (k := 0) hC hin cr9 ui_9 tyX9_ok nmX9 (by decide) (al_R.mpr (Or.inl ht2)) (al_R.mpr (Or.inr (by decide))) (by decide) fl_X9_11 rfl rfl rfl rfl rfl dX9_init_12 ?_
  refine g_aload_n hC dX9_init_15 rfl 0 rfl ?_
  refine g_bipush (v := 8) hC dX9_init_16 (by decide) ?_
  refine g_iconst (v := 4) hC dX9_init_18 (by decide) ?_
  refine r_mna (k := 9) (s := 40) (N := 8) hC0 hB hO 40 18 80 rfl rfl rfl (by decide) (by decide) (by decide) (by decide) (by decide) (by decide) kl_X9_9 (aoI_use hao.2.1) ka_int (by decide) (by decide) (by decide) (by decide) (by decide) dX9_init_19 ?_
  have hC := cx_RO (k := 18) (s := 80) hC0 hB hO (by decide) (by decide) (by decide)
  refine g_putRF (k := 1) hC hin cr9 ui_9 tyX9_ok nmX9 (by decide) (al_R.mpr (Or.inl ht2)) (al_R.mpr (Or.inr (by decide))) (by decide) fl_X9_16 rfl rfl rfl rfl rfl dX9_init_23 ?_
  refine g_aload_n hC dX9_init_26 rfl 0 rfl ?_
  refine g_bipush (v := 8) hC dX9_init_27 (by decide) ?_
  refine r_newa (k := 18) (s := 80) (N := 8) (len := 2) hC0 hB hO 49 19 88 rfl rfl rfl (by decide) (by decide) (by decide) (fun hC h1 h2 h3 h4 h5 kk => g_newJ hC (by decide) ka_long (by decide) (by decide) (by decide) (by decide) h1 h2 h3 h4 h5 dX9_init_29 kk) ?_
  have hC := cx_RO (k := 19) (s := 88) hC0 hB hO (by decide) (by decide) (by decide)
  refine g_putRF (k := 2) hC hin cr9 ui_9 tyX9_ok nmX9 (by decide) (al_R.mpr (Or.inl ht2)) (al_R.mpr (Or.inr (by decide))) (by decide) fl_X9_19 rfl rfl rfl rfl rfl dX9_init_31 ?_
  refine g_aload_n hC dX9_init_34 rfl 0 rfl ?_
  refine g_iconst (v := 0) hC dX9_init_35 (by decide) ?_
  refine g_putI (k := 3) hC cr9 ui_9 tyX9_ok nmX9 (by decide) (al_R.mpr (Or.inl ht2)) (by decide) fl_X9_23 rfl rfl rfl rfl dX9_init_36 ?_
  refine g_aload_n hC dX9_init_39 rfl 0 rfl ?_
  refine g_iconst (v := 0) hC dX9_init_40 (by decide) ?_
  refine g_putI (k := 4) hC cr9 ui_9 tyX9_ok nmX9 (by decide) (al_R.mpr (Or.inl ht2)) (by decide) fl_X9_27 rfl rfl rfl rfl dX9_init_41 ?_
  exact r_vret hC0 hB hO hR (by decide) (by decide) (by decide) dX9_init_44 h
def rm_X1_init_64 : Room := { frames := 1, cells := 3, slots := 264, locals := 20 }
theorem oi_X1_3 : Cond.methodLink RX1 3 objectInit ∈ GT := gtr_5 _ (List.mem_of_getElem? (i := 4) rfl)
set_option maxHeartbeats 4000000 in
set_option maxRecDepth 100000 in
theorem c_X1_init_64 (E : ET) (hE : EO E) (ht2 : AL E 64) (hb1 : ∀ j, 65 ≤ j → j < 68 → ¬ AL E j) (hb2 : ∀ j, 65 ≤ j → j < 68 → E.2.2.1 j + 65 = E.2.2.1 65 + j) (hb3 : ∀ i j, E.2.2.1 i = E.2.2.1 j → i = j) (σ : HS) (hf : f_X1_init_64 σ ≠ none) : CoN E 65 3 264 yX1_init w_X1_init rm_X1_init_64 [.ref (E.2.2.1 64)] σ (f_X1_init_64 σ) := by
  refine CoN.of (lv := [(0, .ref (E.2.2.1 64))]) (n := 65) (b := 68) (mc := 3) (ms := 264) hE (plainFor_of_name (by decide)) rfl rfl (Nat.le_of_ble_eq_true rfl) rfl hb1 hb2 hb3 ?_
  intro F hC0 hB hO hR hin hao
  generalize hfo : f_X1_init_64 σ = fo at hf hR
  have h := hfo
  have hC := cx_RO (k := 0) (s := 0) hC0 hB hO (by decide) (by decide) (by decide)
  refine g_aload_n hC dX1_init_0 rfl 0 rfl ?_
  refine g_obj hC hO oi_X1_3 (gtr_1 _ (List.mem_of_getElem? (i := 12) rfl)) (gtr_1 _ (List.mem_of_getElem? (i := 13) rfl)) dX1_init_1 (by decide) (by decide) ?_
  refine g_aload_n hC dX1_init_4 rfl 0 rfl ?_
  refine g_sipush (v := 176) hC dX1_init_5 (by decide) ?_
  refine r_newa (k := 0) (s := 0) (N := 176) (len := 2) hC0 hB hO 65 1 176 rfl rfl rfl (by decide) (by decide) (by decide) (fun hC h1 h2 h3 h4 h5 kk => g_newJ hC (by decide) ka_long (by decide) (by decide) (by decide) (by decide) h1 h2 h3 h4 h5 dX1_init_8 kk) ?_
  have hC := cx_RO (k := 1) (s := 176) hC0 hB hO (by decide) (by decide) (by decide)
  refine g_putRF (k := 0) hC hin cr1 ui_1 tyX1_ok nmX1 (by decide) (al_R.mpr (Or.inl ht2)) (al_R.mpr (Or.inr (by decide))) (by decide) fl_X1_9 rfl rfl rfl rfl rfl dX1_init_10 ?_
  refine g_aload_n hC dX1_init_13 rfl 0 rfl ?_
  refine g_bipush (v := 44) hC dX1_init_14 (by decide) ?_
  refine r_newa (k := 1) (s := 176) (N := 44) (len := 2) hC0 hB hO 66 2 220 rfl rfl rfl (by decide) (by decide) (by decide) (fun hC h1 h2 h3 h4 h5 kk => g_newI hC (by decide) ka_int (by decide) (by decide) (by decide) (by decide) h1 h2 h3 h4 h5 dX1_init_16 kk) ?_
  have hC := cx_RO (k := 2) (s := 220) hC0 hB hO (by decide) (by decide) (by decide)
  refine g_putRF (k := 1) hC hin cr1 ui_1 tyX1_ok nmX1 (by decide) (al_R.mpr (Or.inl ht2)) (al_R.mpr (Or.inr (by decide))) (by decide) fl_X1_15 rfl rfl rfl rfl rfl dX1_init_18 ?_
  refine g_aload_n hC dX1_init_21 rfl 0 rfl ?_
  refine g_bipush (v := 44) hC dX1_init_22 (by decide) ?_
  refine r_newa (k := 2) (s := 220) (N := 44) (len := 2) hC0 hB hO 67 3 264 rfl rfl rfl (by decide) (by decide) (by decide) (fun hC h1 h2 h3 h4 h5 kk => g_newJ hC (by decide) ka_long (by decide) (by decide) (by decide) (by decide) h1 h2 h3 h4 h5 dX1_init_24 kk) ?_
  have hC := cx_RO (k := 3) (s := 264) hC0 hB hO (by decide) (by decide) (by decide)
  refine g_putRF (k := 2) hC hin cr1 ui_1 tyX1_ok nmX1 (by decide) (al_R.mpr (Or.inl ht2)) (al_R.mpr (Or.inr (by decide))) (by decide) fl_X1_19 rfl rfl rfl rfl rfl dX1_init_26 ?_
  refine g_aload_n hC dX1_init_29 rfl 0 rfl ?_
  refine g_iconst (v := 0) hC dX1_init_30 (by decide) ?_
  refine g_putI (k := 3) hC cr1 ui_1 tyX1_ok nmX1 (by decide) (al_R.mpr (Or.inl ht2)) (by decide) fl_X1_22 rfl rfl rfl rfl dX1_init_31 ?_
  refine g_aload_n hC dX1_init_34 rfl 0 rfl ?_
  refine g_iconst (v := 0) hC dX1_init_35 (by decide) ?_
  refine g_putI (k := 4) hC cr1 ui_1 tyX1_ok nmX1 (by decide) (al_R.mpr (Or.inl ht2)) (by decide) fl_X1_26 rfl rfl rfl rfl dX1_init_36 ?_
  refine g_aload_n hC dX1_init_39 rfl 0 rfl ?_
  refine g_iconst (v := 0) hC dX1_init_40 (by decide) ?_
  refine g_putI (k := 5) hC cr1 ui_1 tyX1_ok nmX1 (by decide) (al_R.mpr (Or.inl ht2)) (by decide) fl_X1_29 rfl rfl rfl rfl dX1_init_41 ?_
  exact r_vret hC0 hB hO hR (by decide) (by decide) (by decide) dX1_init_44 h
def rm_X1_init_68 : Room := { frames := 1, cells := 3, slots := 264, locals := 20 }
set_option maxHeartbeats 4000000 in
set_option maxRecDepth 100000 in
theorem c_X1_init_68 (E : ET) (hE : EO E) (ht2 : AL E 68) (hb1 : ∀ j, 69 ≤ j → j < 72 → ¬ AL E j) (hb2 : ∀ j, 69 ≤ j → j < 72 → E.2.2.1 j + 69 = E.2.2.1 69 + j) (hb3 : ∀ i j, E.2.2.1 i = E.2.2.1 j → i = j) (σ : HS) (hf : f_X1_init_68 σ ≠ none) : CoN E 69 3 264 yX1_init w_X1_init rm_X1_init_68 [.ref (E.2.2.1 68)] σ (f_X1_init_68 σ) := by
  refine CoN.of (lv := [(0, .ref (E.2.2.1 68))]) (n := 69) (b := 72) (mc := 3) (ms := 264) hE (plainFor_of_name (by decide)) rfl rfl (Nat.le_of_ble_eq_true rfl) rfl hb1 hb2 hb3 ?_
  intro F hC0 hB hO hR hin hao
  generalize hfo : f_X1_init_68 σ = fo at hf hR
  have h := hfo
  have hC := cx_RO (k := 0) (s := 0) hC0 hB hO (by decide) (by decide) (by decide)
  refine g_aload_n hC dX1_init_0 rfl 0 rfl ?_
  refine g_obj hC hO oi_X1_3 (gtr_1 _ (List.mem_of_getElem? (i := 12) rfl)) (gtr_1 _ (List.mem_of_getElem? (i := 13) rfl)) dX1_init_1 (by decide) (by decide) ?_
  refine g_aload_n hC dX1_init_4 rfl 0 rfl ?_
  refine g_sipush (v := 176) hC dX1_init_5 (by decide) ?_
  refine r_newa (k := 0) (s := 0) (N := 176) (len := 2) hC0 hB hO 69 1 176 rfl rfl rfl (by decide) (by decide) (by decide) (fun hC h1 h2 h3 h4 h5 kk => g_newJ hC (by decide) ka_long (by decide) (by decide) (by decide) (by decide) h1 h2 h3 h4 h5 dX1_init_8 kk) ?_
  have hC := cx_RO (k := 1) (s := 176) hC0 hB hO (by decide) (by decide) (by decide)
  refine g_putRF (k := 0) hC hin cr1 ui_1 tyX1_ok nmX1 (by decide) (al_R.mpr (Or.inl ht2)) (al_R.mpr (Or.inr (by decide))) (by decide) fl_X1_9 rfl rfl rfl rfl rfl dX1_init_10 ?_
  refine g_aload_n hC dX1_init_13 rfl 0 rfl ?_
  refine g_bipush (v := 44) hC dX1_init_14 (by decide) ?_
  refine r_newa (k := 1) (s := 176) (N := 44) (len := 2) hC0 hB hO 70 2 220 rfl rfl rfl (by decide) (by decide) (by decide) (fun hC h1 h2 h3 h4 h5 kk => g_newI hC (by decide) ka_int (by decide) (by decide) (by decide) (by decide) h1 h2 h3 h4 h5 dX1_init_16 kk) ?_
  have hC := cx_RO (k := 2) (s := 220) hC0 hB hO (by decide) (by decide) (by decide)
  refine g_putRF (k := 1) hC hin cr1 ui_1 tyX1_ok nmX1 (by decide) (al_R.mpr (Or.inl ht2)) (al_R.mpr (Or.inr (by decide))) (by decide) fl_X1_15 rfl rfl rfl rfl rfl dX1_init_18 ?_
  refine g_aload_n hC dX1_init_21 rfl 0 rfl ?_
  refine g_bipush (v := 44) hC dX1_init_22 (by decide) ?_
  refine r_newa (k := 2) (s := 220) (N := 44) (len := 2) hC0 hB hO 71 3 264 rfl rfl rfl (by decide) (by decide) (by decide) (fun hC h1 h2 h3 h4 h5 kk => g_newJ hC (by decide) ka_long (by decide) (by decide) (by decide) (by decide) h1 h2 h3 h4 h5 dX1_init_24 kk) ?_
  have hC := cx_RO (k := 3) (s := 264) hC0 hB hO (by decide) (by decide) (by decide)
  refine g_putRF (k := 2) hC hin cr1 ui_1 tyX1_ok nmX1 (by decide) (al_R.mpr (Or.inl ht2)) (al_R.mpr (Or.inr (by decide))) (by decide) fl_X1_19 rfl rfl rfl rfl rfl dX1_init_26 ?_
  refine g_aload_n hC dX1_init_29 rfl 0 rfl ?_
  refine g_iconst (v := 0) hC dX1_init_30 (by decide) ?_
  refine g_putI (k := 3) hC cr1 ui_1 tyX1_ok nmX1 (by decide) (al_R.mpr (Or.inl ht2)) (by decide) fl_X1_22 rfl rfl rfl rfl dX1_init_31 ?_
  refine g_aload_n hC dX1_init_34 rfl 0 rfl ?_
  refine g_iconst (v := 0) hC dX1_init_35 (by decide) ?_
  refine g_putI (k := 4) hC cr1 ui_1 tyX1_ok nmX1 (by decide) (al_R.mpr (Or.inl ht2)) (by decide) fl_X1_26 rfl rfl rfl rfl dX1_init_36 ?_
  refine g_aload_n hC dX1_init_39 rfl 0 rfl ?_
  refine g_iconst (v := 0) hC dX1_init_40 (by decide) ?_
  refine g_putI (k := 5) hC cr1 ui_1 tyX1_ok nmX1 (by decide) (al_R.mpr (Or.inl ht2)) (by decide) fl_X1_29 rfl rfl rfl rfl dX1_init_41 ?_
  exact r_vret hC0 hB hO hR (by decide) (by decide) (by decide) dX1_init_44 h
def rm_X1_init_73 : Room := { frames := 1, cells := 3, slots := 264, locals := 20 }
set_option maxHeartbeats 4000000 in
set_option maxRecDepth 100000 in
theorem c_X1_init_73 (E : ET) (hE : EO E) (ht2 : AL E 73) (hb1 : ∀ j, 74 ≤ j → j < 77 → ¬ AL E j) (hb2 : ∀ j, 74 ≤ j → j < 77 → E.2.2.1 j + 74 = E.2.2.1 74 + j) (hb3 : ∀ i j, E.2.2.1 i = E.2.2.1 j → i = j) (σ : HS) (hf : f_X1_init_73 σ ≠ none) : CoN E 74 3 264 yX1_init w_X1_init rm_X1_init_73 [.ref (E.2.2.1 73)] σ (f_X1_init_73 σ) := by
  refine CoN.of (lv := [(0, .ref (E.2.2.1 73))]) (n := 74) (b := 77) (mc := 3) (ms := 264) hE (plainFor_of_name (by decide)) rfl rfl (Nat.le_of_ble_eq_true rfl) rfl hb1 hb2 hb3 ?_
  intro F hC0 hB hO hR hin hao
  generalize hfo : f_X1_init_73 σ = fo at hf hR
  have h := hfo
  have hC := cx_RO (k := 0) (s := 0) hC0 hB hO (by decide) (by decide) (by decide)
  refine g_aload_n hC dX1_init_0 rfl 0 rfl ?_
  refine g_obj hC hO oi_X1_3 (gtr_1 _ (List.mem_of_getElem? (i := 12) rfl)) (gtr_1 _ (List.mem_of_getElem? (i := 13) rfl)) dX1_init_1 (by decide) (by decide) ?_
  refine g_aload_n hC dX1_init_4 rfl 0 rfl ?_
  refine g_sipush (v := 176) hC dX1_init_5 (by decide) ?_
  refine r_newa (k := 0) (s := 0) (N := 176) (len := 2) hC0 hB hO 74 1 176 rfl rfl rfl (by decide) (by decide) (by decide) (fun hC h1 h2 h3 h4 h5 kk => g_newJ hC (by decide) ka_long (by decide) (by decide) (by decide) (by decide) h1 h2 h3 h4 h5 dX1_init_8 kk) ?_
  have hC := cx_RO (k := 1) (s := 176) hC0 hB hO (by decide) (by decide) (by decide)
  refine g_putRF (k := 0) hC hin cr1 ui_1 tyX1_ok nmX1 (by decide) (al_R.mpr (Or.inl ht2)) (al_R.mpr (Or.inr (by decide))) (by decide) fl_X1_9 rfl rfl rfl rfl rfl dX1_init_10 ?_
  refine g_aload_n hC dX1_init_13 rfl 0 rfl ?_
  refine g_bipush (v := 44) hC dX1_init_14 (by decide) ?_
  refine r_newa (k := 1) (s := 176) (N := 44) (len := 2) hC0 hB hO 75 2 220 rfl rfl rfl (by decide) (by decide) (by decide) (fun hC h1 h2 h3 h4 h5 kk => g_newI hC (by decide) ka_int (by decide) (by decide) (by decide) (by decide) h1 h2 h3 h4 h5 dX1_init_16 kk) ?_
  have hC := cx_RO (k := 2) (s := 220) hC0 hB hO (by decide) (by decide) (by decide)
  refine g_putRF (k := 1) hC hin cr1 ui_1 tyX1_ok nmX1 (by decide) (al_R.mpr (Or.inl ht2)) (al_R.mpr (Or.inr (by decide))) (by decide) fl_X1_15 rfl rfl rfl rfl rfl dX1_init_18 ?_
  refine g_aload_n hC dX1_init_21 rfl 0 rfl ?_
  refine g_bipush (v := 44) hC dX1_init_22 (by decide) ?_
  refine r_newa (k := 2) (s := 220) (N := 44) (len := 2) hC0 hB hO 76 3 264 rfl rfl rfl (by decide) (by decide) (by decide) (fun hC h1 h2 h3 h4 h5 kk => g_newJ hC (by decide) ka_long (by decide) (by decide) (by decide) (by decide) h1 h2 h3 h4 h5 dX1_init_24 kk) ?_
  have hC := cx_RO (k := 3) (s := 264) hC0 hB hO (by decide) (by decide) (by decide)
  refine g_putRF (k := 2) hC hin cr1 ui_1 tyX1_ok nmX1 (by decide) (al_R.mpr (Or.inl ht2)) (al_R.mpr (Or.inr (by decide))) (by decide) fl_X1_19 rfl rfl rfl rfl rfl dX1_init_26 ?_
  refine g_aload_n hC dX1_init_29 rfl 0 rfl ?_
  refine g_iconst (v := 0) hC dX1_init_30 (by decide) ?_
  refine g_putI (k := 3) hC cr1 ui_1 tyX1_ok nmX1 (by decide) (al_R.mpr (Or.inl ht2)) (by decide) fl_X1_22 rfl rfl rfl rfl dX1_init_31 ?_
  refine g_aload_n hC dX1_init_34 rfl 0 rfl ?_
  refine g_iconst (v := 0) hC dX1_init_35 (by decide) ?_
  refine g_putI (k := 4) hC cr1 ui_1 tyX1_ok nmX1 (by decide) (al_R.mpr (Or.inl ht2)) (by decide) fl_X1_26 rfl rfl rfl rfl dX1_init_36 ?_
  refine g_aload_n hC dX1_init_39 rfl 0 rfl ?_
  refine g_iconst (v := 0) hC dX1_init_40 (by decide) ?_
  refine g_putI (k := 5) hC cr1 ui_1 tyX1_ok nmX1 (by decide) (al_R.mpr (Or.inl ht2)) (by decide) fl_X1_29 rfl rfl rfl rfl dX1_init_41 ?_
  exact r_vret hC0 hB hO hR (by decide) (by decide) (by decide) dX1_init_44 h
def rm_X1_init_77 : Room := { frames := 1, cells := 3, slots := 264, locals := 20 }
set_option maxHeartbeats 4000000 in
set_option maxRecDepth 100000 in
theorem c_X1_init_77 (E : ET) (hE : EO E) (ht2 : AL E 77) (hb1 : ∀ j, 78 ≤ j → j < 81 → ¬ AL E j) (hb2 : ∀ j, 78 ≤ j → j < 81 → E.2.2.1 j + 78 = E.2.2.1 78 + j) (hb3 : ∀ i j, E.2.2.1 i = E.2.2.1 j → i = j) (σ : HS) (hf : f_X1_init_77 σ ≠ none) : CoN E 78 3 264 yX1_init w_X1_init rm_X1_init_77 [.ref (E.2.2.1 77)] σ (f_X1_init_77 σ) := by
  refine CoN.of (lv := [(0, .ref (E.2.2.1 77))]) (n := 78) (b := 81) (mc := 3) (ms := 264) hE (plainFor_of_name (by decide)) rfl rfl (Nat.le_of_ble_eq_true rfl) rfl hb1 hb2 hb3 ?_
  intro F hC0 hB hO hR hin hao
  generalize hfo : f_X1_init_77 σ = fo at hf hR
  have h := hfo
  have hC := cx_RO (k := 0) (s := 0) hC0 hB hO (by decide) (by decide) (by decide)
  refine g_aload_n hC dX1_init_0 rfl 0 rfl ?_
  refine g_obj hC hO oi_X1_3 (gtr_1 _ (List.mem_of_getElem? (i := 12) rfl)) (gtr_1 _ (List.mem_of_getElem? (i := 13) rfl)) dX1_init_1 (by decide) (by decide) ?_
  refine g_aload_n hC dX1_init_4 rfl 0 rfl ?_
  refine g_sipush (v := 176) hC dX1_init_5 (by decide) ?_
  refine r_newa (k := 0) (s := 0) (N := 176) (len := 2) hC0 hB hO 78 1 176 rfl rfl rfl (by decide) (by decide) (by decide) (fun hC h1 h2 h3 h4 h5 kk => g_newJ hC (by decide) ka_long (by decide) (by decide) (by decide) (by decide) h1 h2 h3 h4 h5 dX1_init_8 kk) ?_
  have hC := cx_RO (k := 1) (s := 176) hC0 hB hO (by decide) (by decide) (by decide)
  refine g_putRF (k := 0) hC hin cr1 ui_1 tyX1_ok nmX1 (by decide) (al_R.mpr (Or.inl ht2)) (al_R.mpr (Or.inr (by decide))) (by decide) fl_X1_9 rfl rfl rfl rfl rfl dX1_init_10 ?_
  refine g_aload_n hC dX1_init_13 rfl 0 rfl ?_
  refine g_bipush (v := 44) hC dX1_init_14 (by decide) ?_
  refine r_newa (k := 1) (s := 176) (N := 44) (len := 2) hC0 hB hO 79 2 220 rfl rfl rfl (by decide) (by decide) (by decide) (fun hC h1 h2 h3 h4 h5 kk => g_newI hC (by decide) ka_int (by decide) (by decide) (by decide) (by decide) h1 h2 h3 h4 h5 dX1_init_16 kk) ?_
  have hC := cx_RO (k := 2) (s := 220) hC0 hB hO (by decide) (by decide) (by decide)
  refine g_putRF (k := 1) hC hin cr1 ui_1 tyX1_ok nmX1 (by decide) (al_R.mpr (Or.inl ht2)) (al_R.mpr (Or.inr (by decide))) (by decide) fl_X1_15 rfl rfl rfl rfl rfl dX1_init_18 ?_
  refine g_aload_n hC dX1_init_21 rfl 0 rfl ?_
  refine g_bipush (v := 44) hC dX1_init_22 (by decide) ?_
  refine r_newa (k := 2) (s := 220) (N := 44) (len := 2) hC0 hB hO 80 3 264 rfl rfl rfl (by decide) (by decide) (by decide) (fun hC h1 h2 h3 h4 h5 kk => g_newJ hC (by decide) ka_long (by decide) (by decide) (by decide) (by decide) h1 h2 h3 h4 h5 dX1_init_24 kk) ?_
  have hC := cx_RO (k := 3) (s := 264) hC0 hB hO (by decide) (by decide) (by decide)
  refine g_putRF (k := 2) hC hin cr1 ui_1 tyX1_ok nmX1 (by decide) (al_R.mpr (Or.inl ht2)) (al_R.mpr (Or.inr (by decide))) (by decide) fl_X1_19 rfl rfl rfl rfl rfl dX1_init_26 ?_
  refine g_aload_n hC dX1_init_29 rfl 0 rfl ?_
  refine g_iconst (v := 0) hC dX1_init_30 (by decide) ?_
  refine g_putI (k := 3) hC cr1 ui_1 tyX1_ok nmX1 (by decide) (al_R.mpr (Or.inl ht2)) (by decide) fl_X1_22 rfl rfl rfl rfl dX1_init_31 ?_
  refine g_aload_n hC dX1_init_34 rfl 0 rfl ?_
  refine g_iconst (v := 0) hC dX1_init_35 (by decide) ?_
  refine g_putI (k := 4) hC cr1 ui_1 tyX1_ok nmX1 (by decide) (al_R.mpr (Or.inl ht2)) (by decide) fl_X1_26 rfl rfl rfl rfl dX1_init_36 ?_
  refine g_aload_n hC dX1_init_39 rfl 0 rfl ?_
  refine g_iconst (v := 0) hC dX1_init_40 (by decide) ?_
  refine g_putI (k := 5) hC cr1 ui_1 tyX1_ok nmX1 (by decide) (al_R.mpr (Or.inl ht2)) (by decide) fl_X1_29 rfl rfl rfl rfl dX1_init_41 ?_
  exact r_vret hC0 hB hO hR (by decide) (by decide) (by decide) dX1_init_44 h
def rm_X1_init_81 : Room := { frames := 1, cells := 3, slots := 264, locals := 20 }
set_option maxHeartbeats 4000000 in
set_option maxRecDepth 100000 in
theorem c_X1_init_81 (E : ET) (hE : EO E) (ht2 : AL E 81) (hb1 : ∀ j, 82 ≤ j → j < 85 → ¬ AL E j) (hb2 : ∀ j, 82 ≤ j → j < 85 → E.2.2.1 j + 82 = E.2.2.1 82 + j) (hb3 : ∀ i j, E.2.2.1 i = E.2.2.1 j → i = j) (σ : HS) (hf : f_X1_init_81 σ ≠ none) : CoN E 82 3 264 yX1_init w_X1_init rm_X1_init_81 [.ref (E.2.2.1 81)] σ (f_X1_init_81 σ) := by
  refine CoN.of (lv := [(0, .ref (E.2.2.1 81))]) (n := 82) (b := 85) (mc := 3) (ms := 264) hE (plainFor_of_name (by decide)) rfl rfl (Nat.le_of_ble_eq_true rfl) rfl hb1 hb2 hb3 ?_
  intro F hC0 hB hO hR hin hao
  generalize hfo : f_X1_init_81 σ = fo at hf hR
  have h := hfo
  have hC := cx_RO (k := 0) (s := 0) hC0 hB hO (by decide) (by decide) (by decide)
  refine g_aload_n hC dX1_init_0 rfl 0 rfl ?_
  refine g_obj hC hO oi_X1_3 (gtr_1 _ (List.mem_of_getElem? (i := 12) rfl)) (gtr_1 _ (List.mem_of_getElem? (i := 13) rfl)) dX1_init_1 (by decide) (by decide) ?_
  refine g_aload_n hC dX1_init_4 rfl 0 rfl ?_
  refine g_sipush (v := 176) hC dX1_init_5 (by decide) ?_
  refine r_newa (k := 0) (s := 0) (N := 176) (len := 2) hC0 hB hO 82 1 176 rfl rfl rfl (by decide) (by decide) (by decide) (fun hC h1 h2 h3 h4 h5 kk => g_newJ hC (by decide) ka_long (by decide) (by decide) (by decide) (by decide) h1 h2 h3 h4 h5 dX1_init_8 kk) ?_
  have hC := cx_RO (k := 1) (s := 176) hC0 hB hO (by decide) (by decide) (by decide)
  refine g_putRF (k := 0) hC hin cr1 ui_1 tyX1_ok nmX1 (by decide) (al_R.mpr (Or.inl ht2)) (al_R.mpr (Or.inr (by decide))) (by decide) fl_X1_9 rfl rfl rfl rfl rfl dX1_init_10 ?_
  refine g_aload_n hC dX1_init_13 rfl 0 rfl ?_
  refine g_bipush (v := 44) hC dX1_init_14 (by decide) ?_
  refine r_newa (k := 1) (s := 176) (N := 44) (len := 2) hC0 hB hO 83 2 220 rfl rfl rfl (by decide) (by decide) (by decide) (fun hC h1 h2 h3 h4 h5 kk => g_newI hC (by decide) ka_int (by decide) (by decide) (by decide) (by decide) h1 h2 h3 h4 h5 dX1_init_16 kk) ?_
  have hC := cx_RO (k := 2) (s := 220) hC0 hB hO (by decide) (by decide) (by decide)
  refine g_putRF (k := 1) hC hin cr1 ui_1 tyX1_ok nmX1 (by decide) (al_R.mpr (Or.inl ht2)) (al_R.mpr (Or.inr (by decide))) (by decide) fl_X1_15 rfl rfl rfl rfl rfl dX1_init_18 ?_
  refine g_aload_n hC dX1_init_21 rfl 0 rfl ?_
  refine g_bipush (v := 44) hC dX1_init_22 (by decide) ?_
  refine r_newa (k := 2) (s := 220) (N := 44) (len := 2) hC0 hB hO 84 3 264 rfl rfl rfl (by decide) (by decide) (by decide) (fun hC h1 h2 h3 h4 h5 kk => g_newJ hC (by decide) ka_long (by decide) (by decide) (by decide) (by decide) h1 h2 h3 h4 h5 dX1_init_24 kk) ?_
  have hC := cx_RO (k := 3) (s := 264) hC0 hB hO (by decide) (by decide) (by decide)
  refine g_putRF (k := 2) hC hin cr1 ui_1 tyX1_ok nmX1 (by decide) (al_R.mpr (Or.inl ht2)) (al_R.mpr (Or.inr (by decide))) (by decide) fl_X1_19 rfl rfl rfl rfl rfl dX1_init_26 ?_
  refine g_aload_n hC dX1_init_29 rfl 0 rfl ?_
  refine g_iconst (v := 0) hC dX1_init_30 (by decide) ?_
  refine g_putI (k := 3) hC cr1 ui_1 tyX1_ok nmX1 (by decide) (al_R.mpr (Or.inl ht2)) (by decide) fl_X1_22 rfl rfl rfl rfl dX1_init_31 ?_
  refine g_aload_n hC dX1_init_34 rfl 0 rfl ?_
  refine g_iconst (v := 0) hC dX1_init_35 (by decide) ?_
  refine g_putI (k := 4) hC cr1 ui_1 tyX1_ok nmX1 (by decide) (al_R.mpr (Or.inl ht2)) (by decide) fl_X1_26 rfl rfl rfl rfl dX1_init_36 ?_
  refine g_aload_n hC dX1_init_39 rfl 0 rfl ?_
  refine g_iconst (v := 0) hC dX1_init_40 (by decide) ?_
  refine g_putI (k := 5) hC cr1 ui_1 tyX1_ok nmX1 (by decide) (al_R.mpr (Or.inl ht2)) (by decide) fl_X1_29 rfl rfl rfl rfl dX1_init_41 ?_
  exact r_vret hC0 hB hO hR (by decide) (by decide) (by decide) dX1_init_44 h
def rm_X1_init_85 : Room := { frames := 1, cells := 3, slots := 264, locals := 20 }
set_option maxHeartbeats 4000000 in
set_option maxRecDepth 100000 in
theorem c_X1_init_85 (E : ET) (hE : EO E) (ht2 : AL E 85) (hb1 : ∀ j, 86 ≤ j → j < 89 → ¬ AL E j) (hb2 : ∀ j, 86 ≤ j → j < 89 → E.2.2.1 j + 86 = E.2.2.1 86 + j) (hb3 : ∀ i j, E.2.2.1 i = E.2.2.1 j → i = j) (σ : HS) (hf : f_X1_init_85 σ ≠ none) : CoN E 86 3 264 yX1_init w_X1_init rm_X1_init_85 [.ref (E.2.2.1 85)] σ (f_X1_init_85 σ) := by
  refine CoN.of (lv := [(0, .ref (E.2.2.1 85))]) (n := 86) (b := 89) (mc := 3) (ms := 264) hE (plainFor_of_name (by decide)) rfl rfl (Nat.le_of_ble_eq_true rfl) rfl hb1 hb2 hb3 ?_
  intro F hC0 hB hO hR hin hao
  generalize hfo : f_X1_init_85 σ = fo at hf hR
  have h := hfo
  have hC := cx_RO (k := 0) (s := 0) hC0 hB hO (by decide) (by decide) (by decide)
  refine g_aload_n hC dX1_init_0 rfl 0 rfl ?_
  refine g_obj hC hO oi_X1_3 (gtr_1 _ (List.mem_of_getElem? (i := 12) rfl)) (gtr_1 _ (List.mem_of_getElem? (i := 13) rfl)) dX1_init_1 (by decide) (by decide) ?_
  refine g_aload_n hC dX1_init_4 rfl 0 rfl ?_
  refine g_sipush (v := 176) hC dX1_init_5 (by decide) ?_
  refine r_newa (k := 0) (s := 0) (N := 176) (len := 2) hC0 hB hO 86 1 176 rfl rfl rfl (by decide) (by decide) (by decide) (fun hC h1 h2 h3 h4 h5 kk => g_newJ hC (by decide) ka_long (by decide) (by decide) (by decide) (by decide) h1 h2 h3 h4 h5 dX1_init_8 kk) ?_
  have hC := cx_RO (k := 1) (s := 176) hC0 hB hO (by decide) (by decide) (by decide)
  refine g_putRF (k := 0) hC hin cr1 ui_1 tyX1_ok nmX1 (by decide) (al_R.mpr (Or.inl ht2)) (al_R.mpr (Or.inr (by decide))) (by decide) fl_X1_9 rfl rfl rfl rfl rfl dX1_init_10 ?_
  refine g_aload_n hC dX1_init_13 rfl 0 rfl ?_
  refine g_bipush (v := 44) hC dX1_init_14 (by decide) ?_
  refine r_newa (k := 1) (s := 176) (N := 44) (len := 2) hC0 hB hO 87 2 220 rfl rfl rfl (by decide) (by decide) (by decide) (fun hC h1 h2 h3 h4 h5 kk => g_newI hC (by decide) ka_int (by decide) (by decide) (by decide) (by decide) h1 h2 h3 h4 h5 dX1_init_16 kk) ?_
  have hC := cx_RO (k := 2) (s := 220) hC0 hB hO (by decide) (by decide) (by decide)
  refine g_putRF (k := 1) hC hin cr1 ui_1 tyX1_ok nmX1 (by decide) (al_R.mpr (Or.inl ht2)) (al_R.mpr (Or.inr (by decide))) (by decide) fl_X1_15 rfl rfl rfl rfl rfl dX1_init_18 ?_
  refine g_aload_n hC dX1_init_21 rfl 0 rfl ?_
  refine g_bipush (v := 44) hC dX1_init_22 (by decide) ?_
  refine r_newa (k := 2) (s := 220) (N := 44) (len := 2) hC0 hB hO 88 3 264 rfl rfl rfl (by decide) (by decide) (by decide) (fun hC h1 h2 h3 h4 h5 kk => g_newJ hC (by decide) ka_long (by decide) (by decide) (by decide) (by decide) h1 h2 h3 h4 h5 dX1_init_24 kk) ?_
  have hC := cx_RO (k := 3) (s := 264) hC0 hB hO (by decide) (by decide) (by decide)
  refine g_putRF (k := 2) hC hin cr1 ui_1 tyX1_ok nmX1 (by decide) (al_R.mpr (Or.inl ht2)) (al_R.mpr (Or.inr (by decide))) (by decide) fl_X1_19 rfl rfl rfl rfl rfl dX1_init_26 ?_
  refine g_aload_n hC dX1_init_29 rfl 0 rfl ?_
  refine g_iconst (v := 0) hC dX1_init_30 (by decide) ?_
  refine g_putI (k := 3) hC cr1 ui_1 tyX1_ok nmX1 (by decide) (al_R.mpr (Or.inl ht2)) (by decide) fl_X1_22 rfl rfl rfl rfl dX1_init_31 ?_
  refine g_aload_n hC dX1_init_34 rfl 0 rfl ?_
  refine g_iconst (v := 0) hC dX1_init_35 (by decide) ?_
  refine g_putI (k := 4) hC cr1 ui_1 tyX1_ok nmX1 (by decide) (al_R.mpr (Or.inl ht2)) (by decide) fl_X1_26 rfl rfl rfl rfl dX1_init_36 ?_
  refine g_aload_n hC dX1_init_39 rfl 0 rfl ?_
  refine g_iconst (v := 0) hC dX1_init_40 (by decide) ?_
  refine g_putI (k := 5) hC cr1 ui_1 tyX1_ok nmX1 (by decide) (al_R.mpr (Or.inl ht2)) (by decide) fl_X1_29 rfl rfl rfl rfl dX1_init_41 ?_
  exact r_vret hC0 hB hO hR (by decide) (by decide) (by decide) dX1_init_44 h
def rm_X1_init_89 : Room := { frames := 1, cells := 3, slots := 264, locals := 20 }
set_option maxHeartbeats 4000000 in
set_option maxRecDepth 100000 in
theorem c_X1_init_89 (E : ET) (hE : EO E) (ht2 : AL E 89) (hb1 : ∀ j, 90 ≤ j → j < 93 → ¬ AL E j) (hb2 : ∀ j, 90 ≤ j → j < 93 → E.2.2.1 j + 90 = E.2.2.1 90 + j) (hb3 : ∀ i j, E.2.2.1 i = E.2.2.1 j → i = j) (σ : HS) (hf : f_X1_init_89 σ ≠ none) : CoN E 90 3 264 yX1_init w_X1_init rm_X1_init_89 [.ref (E.2.2.1 89)] σ (f_X1_init_89 σ) := by
  refine CoN.of (lv := [(0, .ref (E.2.2.1 89))]) (n := 90) (b := 93) (mc := 3) (ms := 264) hE (plainFor_of_name (by decide)) rfl rfl (Nat.le_of_ble_eq_true rfl) rfl hb1 hb2 hb3 ?_
  intro F hC0 hB hO hR hin hao
  generalize hfo : f_X1_init_89 σ = fo at hf hR
  have h := hfo
  have hC := cx_RO (k := 0) (s := 0) hC0 hB hO (by decide) (by decide) (by decide)
  refine g_aload_n hC dX1_init_0 rfl 0 rfl ?_
  refine g_obj hC hO oi_X1_3 (gtr_1 _ (List.mem_of_getElem? (i := 12) rfl)) (gtr_1 _ (List.mem_of_getElem? (i := 13) rfl)) dX1_init_1 (by decide) (by decide) ?_
  refine g_aload_n hC dX1_init_4 rfl 0 rfl ?_
  refine g_sipush (v := 176) hC dX1_init_5 (by decide) ?_
  refine r_newa (k := 0) (s := 0) (N := 176) (len := 2) hC0 hB hO 90 1 176 rfl rfl rfl (by decide) (by decide) (by decide) (fun hC h1 h2 h3 h4 h5 kk => g_newJ hC (by decide) ka_long (by decide) (by decide) (by decide) (by decide) h1 h2 h3 h4 h5 dX1_init_8 kk) ?_
  have hC := cx_RO (k := 1) (s := 176) hC0 hB hO (by decide) (by decide) (by decide)
  refine g_putRF (k := 0) hC hin cr1 ui_1 tyX1_ok nmX1 (by decide) (al_R.mpr (Or.inl ht2)) (al_R.mpr (Or.inr (by decide))) (by decide) fl_X1_9 rfl rfl rfl rfl rfl dX1_init_10 ?_
  refine g_aload_n hC dX1_init_13 rfl 0 rfl ?_
  refine g_bipush (v := 44) hC dX1_init_14 (by decide) ?_
  refine r_newa (k := 1) (s := 176) (N := 44) (len := 2) hC0 hB hO 91 2 220 rfl rfl rfl (by decide) (by decide) (by decide) (fun hC h1 h2 h3 h4 h5 kk => g_newI hC (by decide) ka_int (by decide) (by decide) (by decide) (by decide) h1 h2 h3 h4 h5 dX1_init_16 kk) ?_
  have hC := cx_RO (k := 2) (s := 220) hC0 hB hO (by decide) (by decide) (by decide)
  refine g_putRF (k := 1) hC hin cr1 ui_1 tyX1_ok nmX1 (by decide) (al_R.mpr (Or.inl ht2)) (al_R.mpr (Or.inr (by decide))) (by decide) fl_X1_15 rfl rfl rfl rfl rfl dX1_init_18 ?_
  refine g_aload_n hC dX1_init_21 rfl 0 rfl ?_
  refine g_bipush (v := 44) hC dX1_init_22 (by decide) ?_
  refine r_newa (k := 2) (s := 220) (N := 44) (len := 2) hC0 hB hO 92 3 264 rfl rfl rfl (by decide) (by decide) (by decide) (fun hC h1 h2 h3 h4 h5 kk => g_newJ hC (by decide) ka_long (by decide) (by decide) (by decide) (by decide) h1 h2 h3 h4 h5 dX1_init_24 kk) ?_
  have hC := cx_RO (k := 3) (s := 264) hC0 hB hO (by decide) (by decide) (by decide)
  refine g_putRF (k := 2) hC hin cr1 ui_1 tyX1_ok nmX1 (by decide) (al_R.mpr (Or.inl ht2)) (al_R.mpr (Or.inr (by decide))) (by decide) fl_X1_19 rfl rfl rfl rfl rfl dX1_init_26 ?_
  refine g_aload_n hC dX1_init_29 rfl 0 rfl ?_
  refine g_iconst (v := 0) hC dX1_init_30 (by decide) ?_
  refine g_putI (k := 3) hC cr1 ui_1 tyX1_ok nmX1 (by decide) (al_R.mpr (Or.inl ht2)) (by decide) fl_X1_22 rfl rfl rfl rfl dX1_init_31 ?_
  refine g_aload_n hC dX1_init_34 rfl 0 rfl ?_
  refine g_iconst (v := 0) hC dX1_init_35 (by decide) ?_
  refine g_putI (k := 4) hC cr1 ui_1 tyX1_ok nmX1 (by decide) (al_R.mpr (Or.inl ht2)) (by decide) fl_X1_26 rfl rfl rfl rfl dX1_init_36 ?_
  refine g_aload_n hC dX1_init_39 rfl 0 rfl ?_
  refine g_iconst (v := 0) hC dX1_init_40 (by decide) ?_
  refine g_putI (k := 5) hC cr1 ui_1 tyX1_ok nmX1 (by decide) (al_R.mpr (Or.inl ht2)) (by decide) fl_X1_29 rfl rfl rfl rfl dX1_init_41 ?_
  exact r_vret hC0 hB hO hR (by decide) (by decide) (by decide) dX1_init_44 h
def rm_X1_init_93 : Room := { frames := 1, cells := 3, slots := 264, locals := 20 }
set_option maxHeartbeats 4000000 in
set_option maxRecDepth 100000 in
theorem c_X1_init_93 (E : ET) (hE : EO E) (ht2 : AL E 93) (hb1 : ∀ j, 94 ≤ j → j < 97 → ¬ AL E j) (hb2 : ∀ j, 94 ≤ j → j < 97 → E.2.2.1 j + 94 = E.2.2.1 94 + j) (hb3 : ∀ i j, E.2.2.1 i = E.2.2.1 j → i = j) (σ : HS) (hf : f_X1_init_93 σ ≠ none) : CoN E 94 3 264 yX1_init w_X1_init rm_X1_init_93 [.ref (E.2.2.1 93)] σ (f_X1_init_93 σ) := by
  refine CoN.of (lv := [(0, .ref (E.2.2.1 93))]) (n := 94) (b := 97) (mc := 3) (ms := 264) hE (plainFor_of_name (by decide)) rfl rfl (Nat.le_of_ble_eq_true rfl) rfl hb1 hb2 hb3 ?_
  intro F hC0 hB hO hR hin hao
  generalize hfo : f_X1_init_93 σ = fo at hf hR
  have h := hfo
  have hC := cx_RO (k := 0) (s := 0) hC0 hB hO (by decide) (by decide) (by decide)
  refine g_aload_n hC dX1_init_0 rfl 0 rfl ?_
  refine g_obj hC hO oi_X1_3 (gtr_1 _ (List.mem_of_getElem? (i := 12) rfl)) (gtr_1 _ (List.mem_of_getElem? (i := 13) rfl)) dX1_init_1 (by decide) (by decide) ?_
  refine g_aload_n hC dX1_init_4 rfl 0 rfl ?_
  refine g_sipush (v := 176) hC dX1_init_5 (by decide) ?_
  refine r_newa (k := 0) (s := 0) (N := 176) (len := 2) hC0 hB hO 94 1 176 rfl rfl rfl (by decide) (by decide) (by decide) (fun hC h1 h2 h3 h4 h5 kk => g_newJ hC (by decide) ka_long (by decide) (by decide) (by decide) (by decide) h1 h2 h3 h4 h5 dX1_init_8 kk) ?_
  have hC := cx_RO (k := 1) (s := 176) hC0 hB hO (by decide) (by decide) (by decide)
  refine g_putRF (k := 0) hC hin cr1 ui_1 tyX1_ok nmX1 (by decide) (al_R.mpr (Or.inl ht2)) (al_R.mpr (Or.inr (by decide))) (by decide) fl_X1_9 rfl rfl rfl rfl rfl dX1_init_10 ?_
  refine g_aload_n hC dX1_init_13 rfl 0 rfl ?_
  refine g_bipush (v := 44) hC dX1_init_14 (by decide) ?_
  refine r_newa (k := 1) (s := 176) (N := 44) (len := 2) hC0 hB hO 95 2 220 rfl rfl rfl (by decide) (by decide) (by decide) (fun hC h1 h2 h3 h4 h5 kk => g_newI hC (by decide) ka_int (by decide) (by decide) (by decide) (by decide) h1 h2 h3 h4 h5 dX1_init_16 kk) ?_
  have hC := cx_RO (k := 2) (s := 220) hC0 hB hO (by decide) (by decide) (by decide)
  refine g_putRF (k := 1) hC hin cr1 ui_1 tyX1_ok nmX1 (by decide) (al_R.mpr (Or.inl ht2)) (al_R.mpr (Or.inr (by decide))) (by decide) fl_X1_15 rfl rfl rfl rfl rfl dX1_init_18 ?_
  refine g_aload_n hC dX1_init_21 rfl 0 rfl ?_
  refine g_bipush (v := 44) hC dX1_init_22 (by decide) ?_
  refine r_newa (k := 2) (s := 220) (N := 44) (len := 2) hC0 hB hO 96 3 264 rfl rfl rfl (by decide) (by decide) (by decide) (fun hC h1 h2 h3 h4 h5 kk => g_newJ hC (by decide) ka_long (by decide) (by decide) (by decide) (by decide) h1 h2 h3 h4 h5 dX1_init_24 kk) ?_
  have hC := cx_RO (k := 3) (s := 264) hC0 hB hO (by decide) (by decide) (by decide)
  refine g_putRF (k := 2) hC hin cr1 ui_1 tyX1_ok nmX1 (by decide) (al_R.mpr (Or.inl ht2)) (al_R.mpr (Or.inr (by decide))) (by decide) fl_X1_19 rfl rfl rfl rfl rfl dX1_init_26 ?_
  refine g_aload_n hC dX1_init_29 rfl 0 rfl ?_
  refine g_iconst (v := 0) hC dX1_init_30 (by decide) ?_
  refine g_putI (k := 3) hC cr1 ui_1 tyX1_ok nmX1 (by decide) (al_R.mpr (Or.inl ht2)) (by decide) fl_X1_22 rfl rfl rfl rfl dX1_init_31 ?_
  refine g_aload_n hC dX1_init_34 rfl 0 rfl ?_
  refine g_iconst (v := 0) hC dX1_init_35 (by decide) ?_
  refine g_putI (k := 4) hC cr1 ui_1 tyX1_ok nmX1 (by decide) (al_R.mpr (Or.inl ht2)) (by decide) fl_X1_26 rfl rfl rfl rfl dX1_init_36 ?_
  refine g_aload_n hC dX1_init_39 rfl 0 rfl ?_
  refine g_iconst (v := 0) hC dX1_init_40 (by decide) ?_
  refine g_putI (k := 5) hC cr1 ui_1 tyX1_ok nmX1 (by decide) (al_R.mpr (Or.inl ht2)) (by decide) fl_X1_29 rfl rfl rfl rfl dX1_init_41 ?_
  exact r_vret hC0 hB hO hR (by decide) (by decide) (by decide) dX1_init_44 h
def rm_X1_init_97 : Room := { frames := 1, cells := 3, slots := 264, locals := 20 }
set_option maxHeartbeats 4000000 in
set_option maxRecDepth 100000 in
theorem c_X1_init_97 (E : ET) (hE : EO E) (ht2 : AL E 97) (hb1 : ∀ j, 98 ≤ j → j < 101 → ¬ AL E j) (hb2 : ∀ j, 98 ≤ j → j < 101 → E.2.2.1 j + 98 = E.2.2.1 98 + j) (hb3 : ∀ i j, E.2.2.1 i = E.2.2.1 j → i = j) (σ : HS) (hf : f_X1_init_97 σ ≠ none) : CoN E 98 3 264 yX1_init w_X1_init rm_X1_init_97 [.ref (E.2.2.1 97)] σ (f_X1_init_97 σ) := by
  refine CoN.of (lv := [(0, .ref (E.2.2.1 97))]) (n := 98) (b := 101) (mc := 3) (ms := 264) hE (plainFor_of_name (by decide)) rfl rfl (Nat.le_of_ble_eq_true rfl) rfl hb1 hb2 hb3 ?_
  intro F hC0 hB hO hR hin hao
  generalize hfo : f_X1_init_97 σ = fo at hf hR
  have h := hfo
  have hC := cx_RO (k := 0) (s := 0) hC0 hB hO (by decide) (by decide) (by decide)
  refine g_aload_n hC dX1_init_0 rfl 0 rfl ?_
  refine g_obj hC hO oi_X1_3 (gtr_1 _ (List.mem_of_getElem? (i := 12) rfl)) (gtr_1 _ (List.mem_of_getElem? (i := 13) rfl)) dX1_init_1 (by decide) (by decide) ?_
  refine g_aload_n hC dX1_init_4 rfl 0 rfl ?_
  refine g_sipush (v := 176) hC dX1_init_5 (by decide) ?_
  refine r_newa (k := 0) (s := 0) (N := 176) (len := 2) hC0 hB hO 98 1 176 rfl rfl rfl (by decide) (by decide) (by decide) (fun hC h1 h2 h3 h4 h5 kk => g_newJ hC (by decide) ka_long (by decide) (by decide) (by decide) (by decide) h1 h2 h3 h4 h5 dX1_init_8 kk) ?_
  have hC := cx_RO (k := 1) (s := 176) hC0 hB hO (by decide) (by decide) (by decide)
  refine g_putRF (k := 0) hC hin cr1 ui_1 tyX1_ok nmX1 (by decide) (al_R.mpr (Or.inl ht2)) (al_R.mpr (Or.inr (by decide))) (by decide) fl_X1_9 rfl rfl rfl rfl rfl dX1_init_10 ?_
  refine g_aload_n hC dX1_init_13 rfl 0 rfl ?_
  refine g_bipush (v := 44) hC dX1_init_14 (by decide) ?_
  refine r_newa (k := 1) (s := 176) (N := 44) (len := 2) hC0 hB hO 99 2 220 rfl rfl rfl (by decide) (by decide) (by decide) (fun hC h1 h2 h3 h4 h5 kk => g_newI hC (by decide) ka_int (by decide) (by decide) (by decide) (by decide) h1 h2 h3 h4 h5 dX1_init_16 kk) ?_
  have hC := cx_RO (k := 2) (s := 220) hC0 hB hO (by decide) (by decide) (by decide)
  refine g_putRF (k := 1) hC hin cr1 ui_1 tyX1_ok nmX1 (by decide) (al_R.mpr (Or.inl ht2)) (al_R.mpr (Or.inr (by decide))) (by decide) fl_X1_15 rfl rfl rfl rfl rfl dX1_init_18 ?_
  refine g_aload_n hC dX1_init_21 rfl 0 rfl ?_
  refine g_bipush (v := 44) hC dX1_init_22 (by decide) ?_
  refine r_newa (k := 2) (s := 220) (N := 44) (len := 2) hC0 hB hO 100 3 264 rfl rfl rfl (by decide) (by decide) (by decide) (fun hC h1 h2 h3 h4 h5 kk => g_newJ hC (by decide) ka_long (by decide) (by decide) (by decide) (by decide) h1 h2 h3 h4 h5 dX1_init_24 kk) ?_
  have hC := cx_RO (k := 3) (s := 264) hC0 hB hO (by decide) (by decide) (by decide)
  refine g_putRF (k := 2) hC hin cr1 ui_1 tyX1_ok nmX1 (by decide) (al_R.mpr (Or.inl ht2)) (al_R.mpr (Or.inr (by decide))) (by decide) fl_X1_19 rfl rfl rfl rfl rfl dX1_init_26 ?_
  refine g_aload_n hC dX1_init_29 rfl 0 rfl ?_
  refine g_iconst (v := 0) hC dX1_init_30 (by decide) ?_
  refine g_putI (k := 3) hC cr1 ui_1 tyX1_ok nmX1 (by decide) (al_R.mpr (Or.inl ht2)) (by decide) fl_X1_22 rfl rfl rfl rfl dX1_init_31 ?_
  refine g_aload_n hC dX1_init_34 rfl 0 rfl ?_
  refine g_iconst (v := 0) hC dX1_init_35 (by decide) ?_
  refine g_putI (k := 4) hC cr1 ui_1 tyX1_ok nmX1 (by decide) (al_R.mpr (Or.inl ht2)) (by decide) fl_X1_26 rfl rfl rfl rfl dX1_init_36 ?_
  refine g_aload_n hC dX1_init_39 rfl 0 rfl ?_
  refine g_iconst (v := 0) hC dX1_init_40 (by decide) ?_
  refine g_putI (k := 5) hC cr1 ui_1 tyX1_ok nmX1 (by decide) (al_R.mpr (Or.inl ht2)) (by decide) fl_X1_29 rfl rfl rfl rfl dX1_init_41 ?_
  exact r_vret hC0 hB hO hR (by decide) (by decide) (by decide) dX1_init_44 h
def rm_X1_init_101 : Room := { frames := 1, cells := 3, slots := 264, locals := 20 }
set_option maxHeartbeats 4000000 in
set_option maxRecDepth 100000 in
theorem c_X1_init_101 (E : ET) (hE : EO E) (ht2 : AL E 101) (hb1 : ∀ j, 102 ≤ j → j < 105 → ¬ AL E j) (hb2 : ∀ j, 102 ≤ j → j < 105 → E.2.2.1 j + 102 = E.2.2.1 102 + j) (hb3 : ∀ i j, E.2.2.1 i = E.2.2.1 j → i = j) (σ : HS) (hf : f_X1_init_101 σ ≠ none) : CoN E 102 3 264 yX1_init w_X1_init rm_X1_init_101 [.ref (E.2.2.1 101)] σ (f_X1_init_101 σ) := by
  refine CoN.of (lv := [(0, .ref (E.2.2.1 101))]) (n := 102) (b := 105) (mc := 3) (ms := 264) hE (plainFor_of_name (by decide)) rfl rfl (Nat.le_of_ble_eq_true rfl) rfl hb1 hb2 hb3 ?_
  intro F hC0 hB hO hR hin hao
  generalize hfo : f_X1_init_101 σ = fo at hf hR
  have h := hfo
  have hC := cx_RO (k := 0) (s := 0) hC0 hB hO (by decide) (by decide) (by decide)
  refine g_aload_n hC dX1_init_0 rfl 0 rfl ?_
  refine g_obj hC hO oi_X1_3 (gtr_1 _ (List.mem_of_getElem? (i := 12) rfl)) (gtr_1 _ (List.mem_of_getElem? (i := 13) rfl)) dX1_init_1 (by decide) (by decide) ?_
  refine g_aload_n hC dX1_init_4 rfl 0 rfl ?_
  refine g_sipush (v := 176) hC dX1_init_5 (by decide) ?_
  refine r_newa (k := 0) (s := 0) (N := 176) (len := 2) hC0 hB hO 102 1 176 rfl rfl rfl (by decide) (by decide) (by decide) (fun hC h1 h2 h3 h4 h5 kk => g_newJ hC (by decide) ka_long (by decide) (by decide) (by decide) (by decide) h1 h2 h3 h4 h5 dX1_init_8 kk) ?_
  have hC := cx_RO (k := 1) (s := 176) hC0 hB hO (by decide) (by decide) (by decide)
  refine g_putRF (k := 0) hC hin cr1 ui_1 tyX1_ok nmX1 (by decide) (al_R.mpr (Or.inl ht2)) (al_R.mpr (Or.inr (by decide))) (by decide) fl_X1_9 rfl rfl rfl rfl rfl dX1_init_10 ?_
  refine g_aload_n hC dX1_init_13 rfl 0 rfl ?_
  refine g_bipush (v := 44) hC dX1_init_14 (by decide) ?_
  refine r_newa (k := 1) (s := 176) (N := 44) (len := 2) hC0 hB hO 103 2 220 rfl rfl rfl (by decide) (by decide) (by decide) (fun hC h1 h2 h3 h4 h5 kk => g_newI hC (by decide) ka_int (by decide) (by decide) (by decide) (by decide) h1 h2 h3 h4 h5 dX1_init_16 kk) ?_
  have hC := cx_RO (k := 2) (s := 220) hC0 hB hO (by decide) (by decide) (by decide)
  refine g_putRF (k := 1) hC hin cr1 ui_1 tyX1_ok nmX1 (by decide) (al_R.mpr (Or.inl ht2)) (al_R.mpr (Or.inr (by decide))) (by decide) fl_X1_15 rfl rfl rfl rfl rfl dX1_init_18 ?_
  refine g_aload_n hC dX1_init_21 rfl 0 rfl ?_
  refine g_bipush (v := 44) hC dX1_init_22 (by decide) ?_
  refine r_newa (k := 2) (s := 220) (N := 44) (len := 2) hC0 hB hO 104 3 264 rfl rfl rfl (by decide) (by decide) (by decide) (fun hC h1 h2 h3 h4 h5 kk => g_newJ hC (by decide) ka_long (by decide) (by decide) (by decide) (by decide) h1 h2 h3 h4 h5 dX1_init_24 kk) ?_
  have hC := cx_RO (k := 3) (s := 264) hC0 hB hO (by decide) (by decide) (by decide)
  refine g_putRF (k := 2) hC hin cr1 ui_1 tyX1_ok nmX1 (by decide) (al_R.mpr (Or.inl ht2)) (al_R.mpr (Or.inr (by decide))) (by decide) fl_X1_19 rfl rfl rfl rfl rfl dX1_init_26 ?_
  refine g_aload_n hC dX1_init_29 rfl 0 rfl ?_
  refine g_iconst (v := 0) hC dX1_init_30 (by decide) ?_
  refine g_putI (k := 3) hC cr1 ui_1 tyX1_ok nmX1 (by decide) (al_R.mpr (Or.inl ht2)) (by decide) fl_X1_22 rfl rfl rfl rfl dX1_init_31 ?_
  refine g_aload_n hC dX1_init_34 rfl 0 rfl ?_
  refine g_iconst (v := 0) hC dX1_init_35 (by decide) ?_
  refine g_putI (k := 4) hC cr1 ui_1 tyX1_ok nmX1 (by decide) (al_R.mpr (Or.inl ht2)) (by decide) fl_X1_26 rfl rfl rfl rfl dX1_init_36 ?_
  refine g_aload_n hC dX1_init_39 rfl 0 rfl ?_
  refine g_iconst (v := 0) hC dX1_init_40 (by decide) ?_
  refine g_putI (k := 5) hC cr1 ui_1 tyX1_ok nmX1 (by decide) (al_R.mpr (Or.inl ht2)) (by decide) fl_X1_29 rfl rfl rfl rfl dX1_init_41 ?_
  exact r_vret hC0 hB hO hR (by decide) (by decide) (by decide) dX1_init_44 h
def rm_X1_init_105 : Room := { frames := 1, cells := 3, slots := 264, locals := 20 }
set_option maxHeartbeats 4000000 in
set_option maxRecDepth 100000 in
theorem c_X1_init_105 (E : ET) (hE : EO E) (ht2 : AL E 105) (hb1 : ∀ j, 106 ≤ j → j < 109 → ¬ AL E j) (hb2 : ∀ j, 106 ≤ j → j < 109 → E.2.2.1 j + 106 = E.2.2.1 106 + j) (hb3 : ∀ i j, E.2.2.1 i = E.2.2.1 j → i = j) (σ : HS) (hf : f_X1_init_105 σ ≠ none) : CoN E 106 3 264 yX1_init w_X1_init rm_X1_init_105 [.ref (E.2.2.1 105)] σ (f_X1_init_105 σ) := by
  refine CoN.of (lv := [(0, .ref (E.2.2.1 105))]) (n := 106) (b := 109) (mc := 3) (ms := 264) hE (plainFor_of_name (by decide)) rfl rfl (Nat.le_of_ble_eq_true rfl) rfl hb1 hb2 hb3 ?_
  intro F hC0 hB hO hR hin hao
  generalize hfo : f_X1_init_105 σ = fo at hf hR
  have h := hfo
  have hC := cx_RO (k := 0) (s := 0) hC0 hB hO (by decide) (by decide) (by decide)
  refine g_aload_n hC dX1_init_0 rfl 0 rfl ?_
  refine g_obj hC hO oi_X1_3 (gtr_1 _ (List.mem_of_getElem? (i := 12) rfl)) (gtr_1 _ (List.mem_of_getElem? (i := 13) rfl)) dX1_init_1 (by decide) (by decide) ?_
  refine g_aload_n hC dX1_init_4 rfl 0 rfl ?_
  refine g_sipush (v := 176) hC dX1_init_5 (by decide) ?_
  refine r_newa (k := 0) (s := 0) (N := 176) (len := 2) hC0 hB hO 106 1 176 rfl rfl rfl (by decide) (by decide) (by decide) (fun hC h1 h2 h3 h4 h5 kk => g_newJ hC (by decide) ka_long (by decide) (by decide) (by decide) (by decide) h1 h2 h3 h4 h5 dX1_init_8 kk) ?_
  have hC := cx_RO (k := 1) (s := 176) hC0 hB hO (by decide) (by decide) (by decide)
  refine g_putRF (k := 0) hC hin cr1 ui_1 tyX1_ok nmX1 (by decide) (al_R.mpr (Or.inl ht2)) (al_R.mpr (Or.inr (by decide))) (by decide) fl_X1_9 rfl rfl rfl rfl rfl dX1_init_10 ?_
  refine g_aload_n hC dX1_init_13 rfl 0 rfl ?_
  refine g_bipush (v := 44) hC dX1_init_14 (by decide) ?_
  refine r_newa (k := 1) (s := 176) (N := 44) (len := 2) hC0 hB hO 107 2 220 rfl rfl rfl (by decide) (by decide) (by decide) (fun hC h1 h2 h3 h4 h5 kk => g_newI hC (by decide) ka_int (by decide) (by decide) (by decide) (by decide) h1 h2 h3 h4 h5 dX1_init_16 kk) ?_
  have hC := cx_RO (k := 2) (s := 220) hC0 hB hO (by decide) (by decide) (by decide)
  refine g_putRF (k := 1) hC hin cr1 ui_1 tyX1_ok nmX1 (by decide) (al_R.mpr (Or.inl ht2)) (al_R.mpr (Or.inr (by decide))) (by decide) fl_X1_15 rfl rfl rfl rfl rfl dX1_init_18 ?_
  refine g_aload_n hC dX1_init_21 rfl 0 rfl ?_
  refine g_bipush (v := 44) hC dX1_init_22 (by decide) ?_
  refine r_newa (k := 2) (s := 220) (N := 44) (len := 2) hC0 hB hO 108 3 264 rfl rfl rfl (by decide) (by decide) (by decide) (fun hC h1 h2 h3 h4 h5 kk => g_newJ hC (by decide) ka_long (by decide) (by decide) (by decide) (by decide) h1 h2 h3 h4 h5 dX1_init_24 kk) ?_
  have hC := cx_RO (k := 3) (s := 264) hC0 hB hO (by decide) (by decide) (by decide)
  refine g_putRF (k := 2) hC hin cr1 ui_1 tyX1_ok nmX1 (by decide) (al_R.mpr (Or.inl ht2)) (al_R.mpr (Or.inr (by decide))) (by decide) fl_X1_19 rfl rfl rfl rfl rfl dX1_init_26 ?_
  refine g_aload_n hC dX1_init_29 rfl 0 rfl ?_
  refine g_iconst (v := 0) hC dX1_init_30 (by decide) ?_
  refine g_putI (k := 3) hC cr1 ui_1 tyX1_ok nmX1 (by decide) (al_R.mpr (Or.inl ht2)) (by decide) fl_X1_22 rfl rfl rfl rfl dX1_init_31 ?_
  refine g_aload_n hC dX1_init_34 rfl 0 rfl ?_
  refine g_iconst (v := 0) hC dX1_init_35 (by decide) ?_
  refine g_putI (k := 4) hC cr1 ui_1 tyX1_ok nmX1 (by decide) (al_R.mpr (Or.inl ht2)) (by decide) fl_X1_26 rfl rfl rfl rfl dX1_init_36 ?_
  refine g_aload_n hC dX1_init_39 rfl 0 rfl ?_
  refine g_iconst (v := 0) hC dX1_init_40 (by decide) ?_
  refine g_putI (k := 5) hC cr1 ui_1 tyX1_ok nmX1 (by decide) (al_R.mpr (Or.inl ht2)) (by decide) fl_X1_29 rfl rfl rfl rfl dX1_init_41 ?_
  exact r_vret hC0 hB hO hR (by decide) (by decide) (by decide) dX1_init_44 h
def rm_X1_init_109 : Room := { frames := 1, cells := 3, slots := 264, locals := 20 }
set_option maxHeartbeats 4000000 in
set_option maxRecDepth 100000 in
theorem c_X1_init_109 (E : ET) (hE : EO E) (ht2 : AL E 109) (hb1 : ∀ j, 110 ≤ j → j < 113 → ¬ AL E j) (hb2 : ∀ j, 110 ≤ j → j < 113 → E.2.2.1 j + 110 = E.2.2.1 110 + j) (hb3 : ∀ i j, E.2.2.1 i = E.2.2.1 j → i = j) (σ : HS) (hf : f_X1_init_109 σ ≠ none) : CoN E 110 3 264 yX1_init w_X1_init rm_X1_init_109 [.ref (E.2.2.1 109)] σ (f_X1_init_109 σ) := by
  refine CoN.of (lv := [(0, .ref (E.2.2.1 109))]) (n := 110) (b := 113) (mc := 3) (ms := 264) hE (plainFor_of_name (by decide)) rfl rfl (Nat.le_of_ble_eq_true rfl) rfl hb1 hb2 hb3 ?_
  intro F hC0 hB hO hR hin hao
  generalize hfo : f_X1_init_109 σ = fo at hf hR
  have h := hfo
  have hC := cx_RO (k := 0) (s := 0) hC0 hB hO (by decide) (by decide) (by decide)
  refine g_aload_n hC dX1_init_0 rfl 0 rfl ?_
  refine g_obj hC hO oi_X1_3 (gtr_1 _ (List.mem_of_getElem? (i := 12) rfl)) (gtr_1 _ (List.mem_of_getElem? (i := 13) rfl)) dX1_init_1 (by decide) (by decide) ?_
  refine g_aload_n hC dX1_init_4 rfl 0 rfl ?_
  refine g_sipush (v := 176) hC dX1_init_5 (by decide) ?_
  refine r_newa (k := 0) (s := 0) (N := 176) (len := 2) hC0 hB hO 110 1 176 rfl rfl rfl (by decide) (by decide) (by decide) (fun hC h1 h2 h3 h4 h5 kk => g_newJ hC (by decide) ka_long (by decide) (by decide) (by decide) (by decide) h1 h2 h3 h4 h5 dX1_init_8 kk) ?_
  have hC := cx_RO (k := 1) (s := 176) hC0 hB hO (by decide) (by decide) (by decide)
  refine g_putRF (k := 0) hC hin cr1 ui_1 tyX1_ok nmX1 (by decide) (al_R.mpr (Or.inl ht2)) (al_R.mpr (Or.inr (by decide))) (by decide) fl_X1_9 rfl rfl rfl rfl rfl dX1_init_10 ?_
  refine g_aload_n hC dX1_init_13 rfl 0 rfl ?_
  refine g_bipush (v := 44) hC dX1_init_14 (by decide) ?_
  refine r_newa (k := 1) (s := 176) (N := 44) (len := 2) hC0 hB hO 111 2 220 rfl rfl rfl (by decide) (by decide) (by decide) (fun hC h1 h2 h3 h4 h5 kk => g_newI hC (by decide) ka_int (by decide) (by decide) (by decide) (by decide) h1 h2 h3 h4 h5 dX1_init_16 kk) ?_
  have hC := cx_RO (k := 2) (s := 220) hC0 hB hO (by decide) (by decide) (by decide)
  refine g_putRF (k := 1) hC hin cr1 ui_1 tyX1_ok nmX1 (by decide) (al_R.mpr (Or.inl ht2)) (al_R.mpr (Or.inr (by decide))) (by decide) fl_X1_15 rfl rfl rfl rfl rfl dX1_init_18 ?_
  refine g_aload_n hC dX1_init_21 rfl 0 rfl ?_
  refine g_bipush (v := 44) hC dX1_init_22 (by decide) ?_
  refine r_newa (k := 2) (s := 220) (N := 44) (len := 2) hC0 hB hO 112 3 264 rfl rfl rfl (by decide) (by decide) (by decide) (fun hC h1 h2 h3 h4 h5 kk => g_newJ hC (by decide) ka_long (by decide) (by decide) (by decide) (by decide) h1 h2 h3 h4 h5 dX1_init_24 kk) ?_
  have hC := cx_RO (k := 3) (s := 264) hC0 hB hO (by decide) (by decide) (by decide)
  refine g_putRF (k := 2) hC hin cr1 ui_1 tyX1_ok nmX1 (by decide) (al_R.mpr (Or.inl ht2)) (al_R.mpr (Or.inr (by decide))) (by decide) fl_X1_19 rfl rfl rfl rfl rfl dX1_init_26 ?_
  refine g_aload_n hC dX1_init_29 rfl 0 rfl ?_
  refine g_iconst (v := 0) hC dX1_init_30 (by decide) ?_
  refine g_putI (k := 3) hC cr1 ui_1 tyX1_ok nmX1 (by decide) (al_R.mpr (Or.inl ht2)) (by decide) fl_X1_22 rfl rfl rfl rfl dX1_init_31 ?_
  refine g_aload_n hC dX1_init_34 rfl 0 rfl ?_
  refine g_iconst (v := 0) hC dX1_init_35 (by decide) ?_
  refine g_putI (k := 4) hC cr1 ui_1 tyX1_ok nmX1 (by decide) (al_R.mpr (Or.inl ht2)) (by decide) fl_X1_26 rfl rfl rfl rfl dX1_init_36 ?_
  refine g_aload_n hC dX1_init_39 rfl 0 rfl ?_
  refine g_iconst (v := 0) hC dX1_init_40 (by decide) ?_
  refine g_putI (k := 5) hC cr1 ui_1 tyX1_ok nmX1 (by decide) (al_R.mpr (Or.inl ht2)) (by decide) fl_X1_29 rfl rfl rfl rfl dX1_init_41 ?_
  exact r_vret hC0 hB hO hR (by decide) (by decide) (by decide) dX1_init_44 h
def rm_X1_init_113 : Room := { frames := 1, cells := 3, slots := 264, locals := 20 }
set_option maxHeartbeats 4000000 in
set_option maxRecDepth 100000 in
theorem c_X1_init_113 (E : ET) (hE : EO E) (ht2 : AL E 113) (hb1 : ∀ j, 114 ≤ j → j < 117 → ¬ AL E j) (hb2 : ∀ j, 114 ≤ j → j < 117 → E.2.2.1 j + 114 = E.2.2.1 114 + j) (hb3 : ∀ i j, E.2.2.1 i = E.2.2.1 j → i = j) (σ : HS) (hf : f_X1_init_113 σ ≠ none) : CoN E 114 3 264 yX1_init w_X1_init rm_X1_init_113 [.ref (E.2.2.1 113)] σ (f_X1_init_113 σ) := by
  refine CoN.of (lv := [(0, .ref (E.2.2.1 113))]) (n := 114) (b := 117) (mc := 3) (ms := 264) hE (plainFor_of_name (by decide)) rfl rfl (Nat.le_of_ble_eq_true rfl) rfl hb1 hb2 hb3 ?_
  intro F hC0 hB hO hR hin hao
  generalize hfo : f_X1_init_113 σ = fo at hf hR
  have h := hfo
  have hC := cx_RO (k := 0) (s := 0) hC0 hB hO (by decide) (by decide) (by decide)
  refine g_aload_n hC dX1_init_0 rfl 0 rfl ?_
  refine g_obj hC hO oi_X1_3 (gtr_1 _ (List.mem_of_getElem? (i := 12) rfl)) (gtr_1 _ (List.mem_of_getElem? (i := 13) rfl)) dX1_init_1 (by decide) (by decide) ?_
  refine g_aload_n hC dX1_init_4 rfl 0 rfl ?_
  refine g_sipush (v := 176) hC dX1_init_5 (by decide) ?_
  refine r_newa (k := 0) (s := 0) (N := 176) (len := 2) hC0 hB hO 114 1 176 rfl rfl rfl (by decide) (by decide) (by decide) (fun hC h1 h2 h3 h4 h5 kk => g_newJ hC (by decide) ka_long (by decide) (by decide) (by decide) (by decide) h1 h2 h3 h4 h5 dX1_init_8 kk) ?_
  have hC := cx_RO (k := 1) (s := 176) hC0 hB hO (by decide) (by decide) (by decide)
  refine g_putRF (k := 0) hC hin cr1 ui_1 tyX1_ok nmX1 (by decide) (al_R.mpr (Or.inl ht2)) (al_R.mpr (Or.inr (by decide))) (by decide) fl_X1_9 rfl rfl rfl rfl rfl dX1_init_10 ?_
  refine g_aload_n hC dX1_init_13 rfl 0 rfl ?_
  refine g_bipush (v := 44) hC dX1_init_14 (by decide) ?_
  refine r_newa (k := 1) (s := 176) (N := 44) (len := 2) hC0 hB hO 115 2 220 rfl rfl rfl (by decide) (by decide) (by decide) (fun hC h1 h2 h3 h4 h5 kk => g_newI hC (by decide) ka_int (by decide) (by decide) (by decide) (by decide) h1 h2 h3 h4 h5 dX1_init_16 kk) ?_
  have hC := cx_RO (k := 2) (s := 220) hC0 hB hO (by decide) (by decide) (by decide)
  refine g_putRF (k := 1) hC hin cr1 ui_1 tyX1_ok nmX1 (by decide) (al_R.mpr (Or.inl ht2)) (al_R.mpr (Or.inr (by decide))) (by decide) fl_X1_15 rfl rfl rfl rfl rfl dX1_init_18 ?_
  refine g_aload_n hC dX1_init_21 rfl 0 rfl ?_
  refine g_bipush (v := 44) hC dX1_init_22 (by decide) ?_
  refine r_newa (k := 2) (s := 220) (N := 44) (len := 2) hC0 hB hO 116 3 264 rfl rfl rfl (by decide) (by decide) (by decide) (fun hC h1 h2 h3 h4 h5 kk => g_newJ hC (by decide) ka_long (by decide) (by decide) (by decide) (by decide) h1 h2 h3 h4 h5 dX1_init_24 kk) ?_
  have hC := cx_RO (k := 3) (s := 264) hC0 hB hO (by decide) (by decide) (by decide)
  refine g_putRF (k := 2) hC hin cr1 ui_1 tyX1_ok nmX1 (by decide) (al_R.mpr (Or.inl ht2)) (al_R.mpr (Or.inr (by decide))) (by decide) fl_X1_19 rfl rfl rfl rfl rfl dX1_init_26 ?_
  refine g_aload_n hC dX1_init_29 rfl 0 rfl ?_
  refine g_iconst (v := 0) hC dX1_init_30 (by decide) ?_
  refine g_putI (k := 3) hC cr1 ui_1 tyX1_ok nmX1 (by decide) (al_R.mpr (Or.inl ht2)) (by decide) fl_X1_22 rfl rfl rfl rfl dX1_init_31 ?_
  refine g_aload_n hC dX1_init_34 rfl 0 rfl ?_
  refine g_iconst (v := 0) hC dX1_init_35 (by decide) ?_
  refine g_putI (k := 4) hC cr1 ui_1 tyX1_ok nmX1 (by decide) (al_R.mpr (Or.inl ht2)) (by decide) fl_X1_26 rfl rfl rfl rfl dX1_init_36 ?_
  refine g_aload_n hC dX1_init_39 rfl 0 rfl ?_
  refine g_iconst (v := 0) hC dX1_init_40 (by decide) ?_
  refine g_putI (k := 5) hC cr1 ui_1 tyX1_ok nmX1 (by decide) (al_R.mpr (Or.inl ht2)) (by decide) fl_X1_29 rfl rfl rfl rfl dX1_init_41 ?_
  exact r_vret hC0 hB hO hR (by decide) (by decide) (by decide) dX1_init_44 h
def rm_X1_init_117 : Room := { frames := 1, cells := 3, slots := 264, locals := 20 }
set_option maxHeartbeats 4000000 in
set_option maxRecDepth 100000 in
theorem c_X1_init_117 (E : ET) (hE : EO E) (ht2 : AL E 117) (hb1 : ∀ j, 118 ≤ j → j < 121 → ¬ AL E j) (hb2 : ∀ j, 118 ≤ j → j < 121 → E.2.2.1 j + 118 = E.2.2.1 118 + j) (hb3 : ∀ i j, E.2.2.1 i = E.2.2.1 j → i = j) (σ : HS) (hf : f_X1_init_117 σ ≠ none) : CoN E 118 3 264 yX1_init w_X1_init rm_X1_init_117 [.ref (E.2.2.1 117)] σ (f_X1_init_117 σ) := by
  refine CoN.of (lv := [(0, .ref (E.2.2.1 117))]) (n := 118) (b := 121) (mc := 3) (ms := 264) hE (plainFor_of_name (by decide)) rfl rfl (Nat.le_of_ble_eq_true rfl) rfl hb1 hb2 hb3 ?_
  intro F hC0 hB hO hR hin hao
  generalize hfo : f_X1_init_117 σ = fo at hf hR
  have h := hfo
  have hC := cx_RO (k := 0) (s := 0) hC0 hB hO (by decide) (by decide) (by decide)
  refine g_aload_n hC dX1_init_0 rfl 0 rfl ?_
  refine g_obj hC hO oi_X1_3 (gtr_1 _ (List.mem_of_getElem? (i := 12) rfl)) (gtr_1 _ (List.mem_of_getElem? (i := 13) rfl)) dX1_init_1 (by decide) (by decide) ?_
  refine g_aload_n hC dX1_init_4 rfl 0 rfl ?_
  refine g_sipush (v := 176) hC dX1_init_5 (by decide) ?_
  refine r_newa (k := 0) (s := 0) (N := 176) (len := 2) hC0 hB hO 118 1 176 rfl rfl rfl (by decide) (by decide) (by decide) (fun hC h1 h2 h3 h4 h5 kk => g_newJ hC (by decide) ka_long (by decide) (by decide) (by decide) (by decide) h1 h2 h3 h4 h5 dX1_init_8 kk) ?_
  have hC := cx_RO (k := 1) (s := 176) hC0 hB hO (by decide) (by decide) (by decide)
  refine g_putRF (k := 0) hC hin cr1 ui_1 tyX1_ok nmX1 (by decide) (al_R.mpr (Or.inl ht2)) (al_R.mpr (Or.inr (by decide))) (by decide) fl_X1_9 rfl rfl rfl rfl rfl dX1_init_10 ?_
  refine g_aload_n hC dX1_init_13 rfl 0 rfl ?_
  refine g_bipush (v := 44) hC dX1_init_14 (by decide) ?_
  refine r_newa (k := 1) (s := 176) (N := 44) (len := 2) hC0 hB hO 119 2 220 rfl rfl rfl (by decide) (by decide) (by decide) (fun hC h1 h2 h3 h4 h5 kk => g_newI hC (by decide) ka_int (by decide) (by decide) (by decide) (by decide) h1 h2 h3 h4 h5 dX1_init_16 kk) ?_
  have hC := cx_RO (k := 2) (s := 220) hC0 hB hO (by decide) (by decide) (by decide)
  refine g_putRF (k := 1) hC hin cr1 ui_1 tyX1_ok nmX1 (by decide) (al_R.mpr (Or.inl ht2)) (al_R.mpr (Or.inr (by decide))) (by decide) fl_X1_15 rfl rfl rfl rfl rfl dX1_init_18 ?_
  refine g_aload_n hC dX1_init_21 rfl 0 rfl ?_
  refine g_bipush (v := 44) hC dX1_init_22 (by decide) ?_
  refine r_newa (k := 2) (s := 220) (N := 44) (len := 2) hC0 hB hO 120 3 264 rfl rfl rfl (by decide) (by decide) (by decide) (fun hC h1 h2 h3 h4 h5 kk => g_newJ hC (by decide) ka_long (by decide) (by decide) (by decide) (by decide) h1 h2 h3 h4 h5 dX1_init_24 kk) ?_
  have hC := cx_RO (k := 3) (s := 264) hC0 hB hO (by decide) (by decide) (by decide)
  refine g_putRF (k := 2) hC hin cr1 ui_1 tyX1_ok nmX1 (by decide) (al_R.mpr (Or.inl ht2)) (al_R.mpr (Or.inr (by decide))) (by decide) fl_X1_19 rfl rfl rfl rfl rfl dX1_init_26 ?_
  refine g_aload_n hC dX1_init_29 rfl 0 rfl ?_
  refine g_iconst (v := 0) hC dX1_init_30 (by decide) ?_
  refine g_putI (k := 3) hC cr1 ui_1 tyX1_ok nmX1 (by decide) (al_R.mpr (Or.inl ht2)) (by decide) fl_X1_22 rfl rfl rfl rfl dX1_init_31 ?_
  refine g_aload_n hC dX1_init_34 rfl 0 rfl ?_
  refine g_iconst (v := 0) hC dX1_init_35 (by decide) ?_
  refine g_putI (k := 4) hC cr1 ui_1 tyX1_ok nmX1 (by decide) (al_R.mpr (Or.inl ht2)) (by decide) fl_X1_26 rfl rfl rfl rfl dX1_init_36 ?_
  refine g_aload_n hC dX1_init_39 rfl 0 rfl ?_
  refine g_iconst (v := 0) hC dX1_init_40 (by decide) ?_
  refine g_putI (k := 5) hC cr1 ui_1 tyX1_ok nmX1 (by decide) (al_R.mpr (Or.inl ht2)) (by decide) fl_X1_29 rfl rfl rfl rfl dX1_init_41 ?_
  exact r_vret hC0 hB hO hR (by decide) (by decide) (by decide) dX1_init_44 h
def rm_X1_init_121 : Room := { frames := 1, cells := 3, slots := 264, locals := 20 }
set_option maxHeartbeats 4000000 in
set_option maxRecDepth 100000 in
theorem c_X1_init_121 (E : ET) (hE : EO E) (ht2 : AL E 121) (hb1 : ∀ j, 122 ≤ j → j < 125 → ¬ AL E j) (hb2 : ∀ j, 122 ≤ j → j < 125 → E.2.2.1 j + 122 = E.2.2.1 122 + j) (hb3 : ∀ i j, E.2.2.1 i = E.2.2.1 j → i = j) (σ : HS) (hf : f_X1_init_121 σ ≠ none) : CoN E 122 3 264 yX1_init w_X1_init rm_X1_init_121 [.ref (E.2.2.1 121)] σ (f_X1_init_121 σ) := by
  refine CoN.of (lv := [(0, .ref (E.2.2.1 121))]) (n := 122) (b := 125) (mc := 3) (ms := 264) hE (plainFor_of_name (by decide)) rfl rfl (Nat.le_of_ble_eq_true rfl) rfl hb1 hb2 hb3 ?_
  intro F hC0 hB hO hR hin hao
  generalize hfo : f_X1_init_121 σ = fo at hf hR
  have h := hfo
  have hC := cx_RO (k := 0) (s := 0) hC0 hB hO (by decide) (by decide) (by decide)
  refine g_aload_n hC dX1_init_0 rfl 0 rfl ?_
  refine g_obj hC hO oi_X1_3 (gtr_1 _ (List.mem_of_getElem? (i := 12) rfl)) (gtr_1 _ (List.mem_of_getElem? (i := 13) rfl)) dX1_init_1 (by decide) (by decide) ?_
  refine g_aload_n hC dX1_init_4 rfl 0 rfl ?_
  refine g_sipush (v := 176) hC dX1_init_5 (by decide) ?_
  refine r_newa (k := 0) (s := 0) (N := 176) (len := 2) hC0 hB hO 122 1 176 rfl rfl rfl (by decide) (by decide) (by decide) (fun hC h1 h2 h3 h4 h5 kk => g_newJ hC (by decide) ka_long (by decide) (by decide) (by decide) (by decide) h1 h2 h3 h4 h5 dX1_init_8 kk) ?_
  have hC := cx_RO (k := 1) (s := 176) hC0 hB hO (by decide) (by decide) (by decide)
  refine g_putRF (k := 0) hC hin cr1 ui_1 tyX1_ok nmX1 (by decide) (al_R.mpr (Or.inl ht2)) (al_R.mpr (Or.inr (by decide))) (by decide) fl_X1_9 rfl rfl rfl rfl rfl dX1_init_10 ?_
  refine g_aload_n hC dX1_init_13 rfl 0 rfl ?_
  refine g_bipush (v := 44) hC dX1_init_14 (by decide) ?_
  refine r_newa (k := 1) (s := 176) (N := 44) (len := 2) hC0 hB hO 123 2 220 rfl rfl rfl (by decide) (by decide) (by decide) (fun hC h1 h2 h3 h4 h5 kk => g_newI hC (by decide) ka_int (by decide) (by decide) (by decide) (by decide) h1 h2 h3 h4 h5 dX1_init_16 kk) ?_
  have hC := cx_RO (k := 2) (s := 220) hC0 hB hO (by decide) (by decide) (by decide)
  refine g_putRF (k := 1) hC hin cr1 ui_1 tyX1_ok nmX1 (by decide) (al_R.mpr (Or.inl ht2)) (al_R.mpr (Or.inr (by decide))) (by decide) fl_X1_15 rfl rfl rfl rfl rfl dX1_init_18 ?_
  refine g_aload_n hC dX1_init_21 rfl 0 rfl ?_
  refine g_bipush (v := 44) hC dX1_init_22 (by decide) ?_
  refine r_newa (k := 2) (s := 220) (N := 44) (len := 2) hC0 hB hO 124 3 264 rfl rfl rfl (by decide) (by decide) (by decide) (fun hC h1 h2 h3 h4 h5 kk => g_newJ hC (by decide) ka_long (by decide) (by decide) (by decide) (by decide) h1 h2 h3 h4 h5 dX1_init_24 kk) ?_
  have hC := cx_RO (k := 3) (s := 264) hC0 hB hO (by decide) (by decide) (by decide)
  refine g_putRF (k := 2) hC hin cr1 ui_1 tyX1_ok nmX1 (by decide) (al_R.mpr (Or.inl ht2)) (al_R.mpr (Or.inr (by decide))) (by decide) fl_X1_19 rfl rfl rfl rfl rfl dX1_init_26 ?_
  refine g_aload_n hC dX1_init_29 rfl 0 rfl ?_
  refine g_iconst (v := 0) hC dX1_init_30 (by decide) ?_
  refine g_putI (k := 3) hC cr1 ui_1 tyX1_ok nmX1 (by decide) (al_R.mpr (Or.inl ht2)) (by decide) fl_X1_22 rfl rfl rfl rfl dX1_init_31 ?_
  refine g_aload_n hC dX1_init_34 rfl 0 rfl ?_
  refine g_iconst (v := 0) hC dX1_init_35 (by decide) ?_
  refine g_putI (k := 4) hC cr1 ui_1 tyX1_ok nmX1 (by decide) (al_R.mpr (Or.inl ht2)) (by decide) fl_X1_26 rfl rfl rfl rfl dX1_init_36 ?_
  refine g_aload_n hC dX1_init_39 rfl 0 rfl ?_
  refine g_iconst (v := 0) hC dX1_init_40 (by decide) ?_
  refine g_putI (k := 5) hC cr1 ui_1 tyX1_ok nmX1 (by decide) (al_R.mpr (Or.inl ht2)) (by decide) fl_X1_29 rfl rfl rfl rfl dX1_init_41 ?_
  exact r_vret hC0 hB hO hR (by decide) (by decide) (by decide) dX1_init_44 h
