def rm_J6_bitCount_0f7a4 : Room := { frames := 0, cells := 0, slots := 0, locals := 0 }
theorem cw_J6_265 : Cond.constant RJ6 265 (1431655765) ∈ GT := gtr_25 _ (List.mem_of_getElem? (i := 15) rfl)
theorem cw_J6_266 : Cond.constant RJ6 266 (858993459) ∈ GT := gtr_25 _ (List.mem_of_getElem? (i := 16) rfl)
theorem cw_J6_267 : Cond.constant RJ6 267 (252645135) ∈ GT := gtr_25 _ (List.mem_of_getElem? (i := 17) rfl)
set_option maxHeartbeats 4000000 in
set_option maxRecDepth 100000 in
theorem k_J6_bitCount_0f7a4_0 {E : ET} {F : FT} {fo : Option (Int32 × HS)} (hC : Cx E F 1 cJ6_bitCount_0f7a4 RJ6 GT) (hO : Ro F rm_J6_bitCount_0f7a4) (hR : RI E F .int fo) (hf : fo ≠ none) (x0 : Int32) (σ : HS) (h : f_J6_bitCount_0f7a4 x0 σ = fo) : G E F 0 [(0, .int x0)] [] σ := by
    refine g_iload_n hC dJ6_bitCount_0f7a4_0 rfl 0 rfl ?_
    refine g_iload_n hC dJ6_bitCount_0f7a4_1 rfl 0 rfl ?_
    refine g_iconst (v := 1) hC dJ6_bitCount_0f7a4_2 (by decide) ?_
    refine g_iushr hC dJ6_bitCount_0f7a4_3 ?_
    refine g_ldcw (v := 1431655765) hC cw_J6_265 dJ6_bitCount_0f7a4_4 ?_
    refine g_iand hC dJ6_bitCount_0f7a4_7 ?_
    refine g_isub hC dJ6_bitCount_0f7a4_8 ?_
    refine g_istore_n (lv' := [(0, .int (x0 - (((x0.toUInt32 >>> ((1 : Int32).toUInt32 &&& Int32.toUInt32 31)).toInt32) &&& 1431655765)))]) hC dJ6_bitCount_0f7a4_9 rfl (by decide) rfl ?_
    refine g_iload_n hC dJ6_bitCount_0f7a4_10 rfl 0 rfl ?_
    refine g_ldcw (v := 858993459) hC cw_J6_266 dJ6_bitCount_0f7a4_11 ?_
    refine g_iand hC dJ6_bitCount_0f7a4_14 ?_
    refine g_iload_n hC dJ6_bitCount_0f7a4_15 rfl 0 rfl ?_
    refine g_iconst (v := 2) hC dJ6_bitCount_0f7a4_16 (by decide) ?_
    refine g_iushr hC dJ6_bitCount_0f7a4_17 ?_
    refine g_ldcw (v := 858993459) hC cw_J6_266 dJ6_bitCount_0f7a4_18 ?_
    refine g_iand hC dJ6_bitCount_0f7a4_21 ?_
    refine g_iadd hC dJ6_bitCount_0f7a4_22 ?_
    refine g_istore_n (lv' := [(0, .int (((x0 - (((x0.toUInt32 >>> ((1 : Int32).toUInt32 &&& Int32.toUInt32 31)).toInt32) &&& 1431655765)) &&& 858993459) + ((((x0 - (((x0.toUInt32 >>> ((1 : Int32).toUInt32 &&& Int32.toUInt32 31)).toInt32) &&& 1431655765)).toUInt32 >>> ((2 : Int32).toUInt32 &&& Int32.toUInt32 31)).toInt32) &&& 858993459)))]) hC dJ6_bitCount_0f7a4_23 rfl (by decide) rfl ?_
    refine g_iload_n hC dJ6_bitCount_0f7a4_24 rfl 0 rfl ?_
    refine g_iload_n hC dJ6_bitCount_0f7a4_25 rfl 0 rfl ?_
    refine g_iconst (v := 4) hC dJ6_bitCount_0f7a4_26 (by decide) ?_
    refine g_iushr hC dJ6_bitCount_0f7a4_27 ?_
    refine g_iadd hC dJ6_bitCount_0f7a4_28 ?_
    refine g_ldcw (v := 252645135) hC cw_J6_267 dJ6_bitCount_0f7a4_29 ?_
    refine g_iand hC dJ6_bitCount_0f7a4_32 ?_
    refine g_istore_n (lv' := [(0, .int (((((x0 - (((x0.toUInt32 >>> ((1 : Int32).toUInt32 &&& Int32.toUInt32 31)).toInt32) &&& 1431655765)) &&& 858993459) + ((((x0 - (((x0.toUInt32 >>> ((1 : Int32).toUInt32 &&& Int32.toUInt32 31)).toInt32) &&& 1431655765)).toUInt32 >>> ((2 : Int32).toUInt32 &&& Int32.toUInt32 31)).toInt32) &&& 858993459)) + (((((x0 - (((x0.toUInt32 >>> ((1 : Int32).toUInt32 &&& Int32.toUInt32 31)).toInt32) &&& 1431655765)) &&& 858993459) + ((((x0 - (((x0.toUInt32 >>> ((1 : Int32).toUInt32 &&& Int32.toUInt32 31)).toInt32) &&& 1431655765)).toUInt32 >>> ((2 : Int32).toUInt32 &&& Int32.toUInt32 31)).toInt32) &&& 858993459)).toUInt32 >>> ((4 : Int32).toUInt32 &&& Int32.toUInt32 31)).toInt32)) &&& 252645135))]) hC dJ6_bitCount_0f7a4_33 rfl (by decide) rfl ?_
    refine g_iload_n hC dJ6_bitCount_0f7a4_34 rfl 0 rfl ?_
    refine g_iload_n hC dJ6_bitCount_0f7a4_35 rfl 0 rfl ?_
    refine g_bipush (v := 8) hC dJ6_bitCount_0f7a4_36 (by decide) ?_
    refine g_iushr hC dJ6_bitCount_0f7a4_38 ?_
    refine g_iadd hC dJ6_bitCount_0f7a4_39 ?_
    refine g_istore_n (lv' := [(0, .int ((((((x0 - (((x0.toUInt32 >>> ((1 : Int32).toUInt32 &&& Int32.toUInt32 31)).toInt32) &&& 1431655765)) &&& 858993459) + ((((x0 - (((x0.toUInt32 >>> ((1 : Int32).toUInt32 &&& Int32.toUInt32 31)).toInt32) &&& 1431655765)).toUInt32 >>> ((2 : Int32).toUInt32 &&& Int32.toUInt32 31)).toInt32) &&& 858993459)) + (((((x0 - (((x0.toUInt32 >>> ((1 : Int32).toUInt32 &&& Int32.toUInt32 31)).toInt32) &&& 1431655765)) &&& 858993459) + ((((x0 - (((x0.toUInt32 >>> ((1 : Int32).toUInt32 &&& Int32.toUInt32 31)).toInt32) &&& 1431655765)).toUInt32 >>> ((2 : Int32).toUInt32 &&& Int32.toUInt32 31)).toInt32) &&& 858993459)).toUInt32 >>> ((4 : Int32).toUInt32 &&& Int32.toUInt32 31)).toInt32)) &&& 252645135) + (((((((x0 - (((x0.toUInt32 >>> ((1 : Int32).toUInt32 &&& Int32.toUInt32 31)).toInt32) &&& 1431655765)) &&& 858993459) + ((((x0 - (((x0.toUInt32 >>> ((1 : Int32).toUInt32 &&& Int32.toUInt32 31)).toInt32) &&& 1431655765)).toUInt32 >>> ((2 : Int32).toUInt32 &&& Int32.toUInt32 31)).toInt32) &&& 858993459)) + (((((x0 - (((x0.toUInt32 >>> ((1 : Int32).toUInt32 &&& Int32.toUInt32 31)).toInt32) &&& 1431655765)) &&& 858993459) + ((((x0 - (((x0.toUInt32 >>> ((1 : Int32).toUInt32 &&& Int32.toUInt32 31)).toInt32) &&& 1431655765)).toUInt32 >>> ((2 : Int32).toUInt32 &&& Int32.toUInt32 31)).toInt32) &&& 858993459)).toUInt32 >>> ((4 : Int32).toUInt32 &&& Int32.toUInt32 31)).toInt32)) &&& 252645135).toUInt32 >>> ((8 : Int32).toUInt32 &&& Int32.toUInt32 31)).toInt32)))]) hC dJ6_bitCount_0f7a4_40 rfl (by decide) rfl ?_
    refine g_iload_n hC dJ6_bitCount_0f7a4_41 rfl 0 rfl ?_
    refine g_iload_n hC dJ6_bitCount_0f7a4_42 rfl 0 rfl ?_
    refine g_bipush (v := 16) hC dJ6_bitCount_0f7a4_43 (by decide) ?_
    refine g_iushr hC dJ6_bitCount_0f7a4_45 ?_
    refine g_iadd hC dJ6_bitCount_0f7a4_46 ?_
    refine g_istore_n (lv' := [(0, .int (((((((x0 - (((x0.toUInt32 >>> ((1 : Int32).toUInt32 &&& Int32.toUInt32 31)).toInt32) &&& 1431655765)) &&& 858993459) + ((((x0 - (((x0.toUInt32 >>> ((1 : Int32).toUInt32 &&& Int32.toUInt32 31)).toInt32) &&& 1431655765)).toUInt32 >>> ((2 : Int32).toUInt32 &&& Int32.toUInt32 31)).toInt32) &&& 858993459)) + (((((x0 - (((x0.toUInt32 >>> ((1 : Int32).toUInt32 &&& Int32.toUInt32 31)).toInt32) &&& 1431655765)) &&& 858993459) + ((((x0 - (((x0.toUInt32 >>> ((1 : Int32).toUInt32 &&& Int32.toUInt32 31)).toInt32) &&& 1431655765)).toUInt32 >>> ((2 : Int32).toUInt32 &&& Int32.toUInt32 31)).toInt32) &&& 858993459)).toUInt32 >>> ((4 : Int32).toUInt32 &&& Int32.toUInt32 31)).toInt32)) &&& 252645135) + (((((((x0 - (((x0.toUInt32 >>> ((1 : Int32).toUInt32 &&& Int32.toUInt32 31)).toInt32) &&& 1431655765)) &&& 858993459) + ((((x0 - (((x0.toUInt32 >>> ((1 : Int32).toUInt32 &&& Int32.toUInt32 31)).toInt32) &&& 1431655765)).toUInt32 >>> ((2 : Int32).toUInt32 &&& Int32.toUInt32 31)).toInt32) &&& 858993459)) + (((((x0 - (((x0.toUInt32 >>> ((1 : Int32).toUInt32 &&& Int32.toUInt32 31)).toInt32) &&& 1431655765)) &&& 858993459) + ((((x0 - (((x0.toUInt32 >>> ((1 : Int32).toUInt32 &&& Int32.toUInt32 31)).toInt32) &&& 1431655765)).toUInt32 >>> ((2 : Int32).toUInt32 &&& Int32.toUInt32 31)).toInt32) &&& 858993459)).toUInt32 >>> ((4 : Int32).toUInt32 &&& Int32.toUInt32 31)).toInt32)) &&& 252645135).toUInt32 >>> ((8 : Int32).toUInt32 &&& Int32.toUInt32 31)).toInt32)) + ((((((((x0 - (((x0.toUInt32 >>> ((1 : Int32).toUInt32 &&& Int32.toUInt32 31)).toInt32) &&& 1431655765)) &&& 858993459) + ((((x0 - (((x0.toUInt32 >>> ((1 : Int32).toUInt32 &&& Int32.toUInt32 31)).toInt32) &&& 1431655765)).toUInt32 >>> ((2 : Int32).toUInt32 &&& Int32.toUInt32 31)).toInt32) &&& 858993459)) + (((((x0 - (((x0.toUInt32 >>> ((1 : Int32).toUInt32 &&& Int32.toUInt32 31)).toInt32) &&& 1431655765)) &&& 858993459) + ((((x0 - (((x0.toUInt32 >>> ((1 : Int32).toUInt32 &&& Int32.toUInt32 31)).toInt32) &&& 1431655765)).toUInt32 >>> ((2 : Int32).toUInt32 &&& Int32.toUInt32 31)).toInt32) &&& 858993459)).toUInt32 >>> ((4 : Int32).toUInt32 &&& Int32.toUInt32 31)).toInt32)) &&& 252645135) + (((((((x0 - (((x0.toUInt32 >>> ((1 : Int32).toUInt32 &&& Int32.toUInt32 31)).toInt32) &&& 1431655765)) &&& 858993459) + ((((x0 - (((x0.toUInt32 >>> ((1 : Int32).toUInt32 &&& Int32.toUInt32 31)).toInt32) &&& 1431655765)).toUInt32 >>> ((2 : Int32).toUInt32 &&& Int32.toUInt32 31)).toInt32) &&& 858993459)) + (((((x0 - (((x0.toUInt32 >>> ((1 : Int32).toUInt32 &&& Int32.toUInt32 31)).toInt32) &&& 1431655765)) &&& 858993459) + ((((x0 - (((x0.toUInt32 >>> ((1 : Int32).toUInt32 &&& Int32.toUInt32 31)).toInt32) &&& 1431655765)).toUInt32 >>> ((2 : Int32).toUInt32 &&& Int32.toUInt32 31)).toInt32) &&& 858993459)).toUInt32 >>> ((4 : Int32).toUInt32 &&& Int32.toUInt32 31)).toInt32)) &&& 252645135).toUInt32 >>> ((8 : Int32).toUInt32 &&& Int32.toUInt32 31)).toInt32)).toUInt32 >>> ((16 : Int32).toUInt32 &&& Int32.toUInt32 31)).toInt32)))]) hC dJ6_bitCount_0f7a4_47 rfl (by decide) rfl ?_
    refine g_iload_n hC dJ6_bitCount_0f7a4_48 rfl 0 rfl ?_
    refine g_bipush (v := 63) hC dJ6_bitCount_0f7a4_49 (by decide) ?_
    refine g_iand hC dJ6_bitCount_0f7a4_51 ?_
    exact g_iret hC hR dJ6_bitCount_0f7a4_52 rfl h
theorem xk_J6_bitCount_0f7a4 (R : Room) (h1 : 0 + 1 ≤ R.frames) (h2 : 32 ≤ R.locals) : xw R yJ6_bitCount_0f7a4 w_J6_bitCount_0f7a4 GT cJ6_bitCount_0f7a4 1 (some .int) rm_J6_bitCount_0f7a4 1 := ⟨rfl, rfl, rfl, h1, h2, ⟨by decide, by decide⟩, by decide +kernel⟩
theorem c_J6_bitCount_0f7a4 (E : ET) (hE : EO E) (x0 : Int32) (σ : HS) (hn : f_J6_bitCount_0f7a4 x0 σ ≠ none) : CoI E yJ6_bitCount_0f7a4 w_J6_bitCount_0f7a4 rm_J6_bitCount_0f7a4 [.int x0] σ (f_J6_bitCount_0f7a4 x0 σ) := CoI.of (lv := [(0, .int x0)]) hE (by decide +kernel) rfl (Nat.le_of_ble_eq_true rfl) rfl (fun F hC hO hR => k_J6_bitCount_0f7a4_0 hC hO hR hn x0 σ rfl)
def rm_J9_floorDiv_7cf53 : Room := { frames := 0, cells := 0, slots := 0, locals := 0 }
set_option maxHeartbeats 4000000 in
set_option maxRecDepth 100000 in
theorem k_J9_floorDiv_7cf53_21 {E : ET} {F : FT} {fo : Option (Int32 × HS)} (hC : Cx E F 3 cJ9_floorDiv_7cf53 RJ9 GT) (hO : Ro F rm_J9_floorDiv_7cf53) (hR : RI E F .int fo) (hf : fo ≠ none) (x2 : Int32) (σ : HS) (h : f_J9_floorDiv_7cf53_21 x2 σ = fo) : G E F 21 [(2, .int x2)] [] σ := by
    refine g_iload_n hC dJ9_floorDiv_7cf53_21 rfl 0 rfl ?_
    exact g_iret hC hR dJ9_floorDiv_7cf53_22 rfl h
set_option maxHeartbeats 4000000 in
set_option maxRecDepth 100000 in
theorem k_J9_floorDiv_7cf53_0 {E : ET} {F : FT} {fo : Option (Int32 × HS)} (hC : Cx E F 3 cJ9_floorDiv_7cf53 RJ9 GT) (hO : Ro F rm_J9_floorDiv_7cf53) (hR : RI E F .int fo) (hf : fo ≠ none) (x0 : Int32) (x1 : Int32) (σ : HS) (h : f_J9_floorDiv_7cf53 x0 x1 σ = fo) : G E F 0 [(0, .int x0), (1, .int x1)] [] σ := by
    refine g_iload_n hC dJ9_floorDiv_7cf53_0 rfl 0 rfl ?_
    refine g_iload_n hC dJ9_floorDiv_7cf53_1 rfl 1 rfl ?_
    obtain ⟨hz2, h⟩ := nz_of h hf
    refine g_idiv hC dJ9_floorDiv_7cf53_2 hz2 ?_
    refine g_istore_n (lv' := [(2, .int (x0 / x1)), (0, .int x0), (1, .int x1)]) hC dJ9_floorDiv_7cf53_3 rfl (by decide) rfl ?_
    refine g_iload_n hC dJ9_floorDiv_7cf53_4 rfl 1 rfl ?_
    refine g_iload_n hC dJ9_floorDiv_7cf53_5 rfl 2 rfl ?_
    refine g_ixor hC dJ9_floorDiv_7cf53_6 ?_
    refine g_if_ge (tgt := 21) hC dJ9_floorDiv_7cf53_7 (by decide) h (fun c7 h => ?_) (fun c7 h => ?_)
    · exact g_sub [0] rfl (k_J9_floorDiv_7cf53_21 hC hO hR hf (x0 / x1) σ h)
    · refine g_iload_n hC dJ9_floorDiv_7cf53_10 rfl 0 rfl ?_
      refine g_iload_n hC dJ9_floorDiv_7cf53_11 rfl 2 rfl ?_
      refine g_imul hC dJ9_floorDiv_7cf53_12 ?_
      refine g_iload_n hC dJ9_floorDiv_7cf53_13 rfl 1 rfl ?_
      refine g_icmp_eq (tgt := 21) hC dJ9_floorDiv_7cf53_14 (by decide) h (fun c14 h => ?_) (fun c14 h => ?_)
      · exact g_sub [0] rfl (k_J9_floorDiv_7cf53_21 hC hO hR hf (x0 / x1) σ h)
      · refine g_iload_n hC dJ9_floorDiv_7cf53_17 rfl 0 rfl ?_
        refine g_iconst (v := 1) hC dJ9_floorDiv_7cf53_18 (by decide) ?_
        refine g_isub hC dJ9_floorDiv_7cf53_19 ?_
        exact g_iret hC hR dJ9_floorDiv_7cf53_20 rfl h
theorem xk_J9_floorDiv_7cf53 (R : Room) (h1 : 0 + 1 ≤ R.frames) (h2 : 34 ≤ R.locals) : xw R yJ9_floorDiv_7cf53 w_J9_floorDiv_7cf53 GT cJ9_floorDiv_7cf53 3 (some .int) rm_J9_floorDiv_7cf53 2 := ⟨rfl, rfl, rfl, h1, h2, ⟨by decide, by decide⟩, by decide +kernel⟩
theorem c_J9_floorDiv_7cf53 (E : ET) (hE : EO E) (x0 : Int32) (x1 : Int32) (σ : HS) (hn : f_J9_floorDiv_7cf53 x0 x1 σ ≠ none) : CoI E yJ9_floorDiv_7cf53 w_J9_floorDiv_7cf53 rm_J9_floorDiv_7cf53 [.int x0, .int x1] σ (f_J9_floorDiv_7cf53 x0 x1 σ) := CoI.of (lv := [(0, .int x0), (1, .int x1)]) hE (by decide +kernel) rfl (Nat.le_of_ble_eq_true rfl) rfl (fun F hC hO hR => k_J9_floorDiv_7cf53_0 hC hO hR hn x0 x1 σ rfl)
def rm_J9_floorDiv_f86c9 : Room := { frames := 0, cells := 0, slots := 0, locals := 0 }
set_option maxHeartbeats 4000000 in
set_option maxRecDepth 100000 in
theorem k_J9_floorDiv_f86c9_27 {E : ET} {F : FT} {fo : Option (Int64 × HS)} (hC : Cx E F 6 cJ9_floorDiv_f86c9 RJ9 GT) (hO : Ro F rm_J9_floorDiv_f86c9) (hR : RJ E F fo) (hf : fo ≠ none) (x4 : Int64) (σ : HS) (h : f_J9_floorDiv_f86c9_27 x4 σ = fo) : G E F 27 [(4, .long x4)] [] σ := by
    refine g_lload hC dJ9_floorDiv_f86c9_27 0 rfl ?_
    exact g_lret hC hR dJ9_floorDiv_f86c9_29 h
set_option maxHeartbeats 4000000 in
set_option maxRecDepth 100000 in
theorem k_J9_floorDiv_f86c9_0 {E : ET} {F : FT} {fo : Option (Int64 × HS)} (hC : Cx E F 6 cJ9_floorDiv_f86c9 RJ9 GT) (hO : Ro F rm_J9_floorDiv_f86c9) (hR : RJ E F fo) (hf : fo ≠ none) (x0 : Int64) (x2 : Int64) (σ : HS) (h : f_J9_floorDiv_f86c9 x0 x2 σ = fo) : G E F 0 [(0, .long x0), (2, .long x2)] [] σ := by
    refine g_lload_n hC dJ9_floorDiv_f86c9_0 rfl 0 rfl ?_
    refine g_lload_n hC dJ9_floorDiv_f86c9_1 rfl 1 rfl ?_
    obtain ⟨hz2, h⟩ := nz_of h hf
    refine g_ldiv hC dJ9_floorDiv_f86c9_2 hz2 ?_
    refine g_lstore (lv' := [(4, .long (x0 / x2)), (0, .long x0), (2, .long x2)]) hC dJ9_floorDiv_f86c9_3 (by decide) rfl ?_
    refine g_lload_n hC dJ9_floorDiv_f86c9_5 rfl 1 rfl ?_
    refine g_lload_n hC dJ9_floorDiv_f86c9_6 rfl 2 rfl ?_
    refine g_lxor hC dJ9_floorDiv_f86c9_7 ?_
    refine g_lconst (v := 0) hC dJ9_floorDiv_f86c9_8 (by decide) ?_
    refine g_lc_ge (tgt := 27) hC dJ9_floorDiv_f86c9_9 dJ9_floorDiv_f86c9_10 (by decide) h (fun c9 h => ?_) (fun c9 h => ?_)
    · exact g_sub [0] rfl (k_J9_floorDiv_f86c9_27 hC hO hR hf (x0 / x2) σ h)
    · refine g_lload hC dJ9_floorDiv_f86c9_13 0 rfl ?_
      refine g_lload_n hC dJ9_floorDiv_f86c9_15 rfl 2 rfl ?_
      refine g_lmul hC dJ9_floorDiv_f86c9_16 ?_
      refine g_lload_n hC dJ9_floorDiv_f86c9_17 rfl 1 rfl ?_
      refine g_lc_eq (tgt := 27) hC dJ9_floorDiv_f86c9_18 dJ9_floorDiv_f86c9_19 (by decide) h (fun c18 h => ?_) (fun c18 h => ?_)
      · exact g_sub [0] rfl (k_J9_floorDiv_f86c9_27 hC hO hR hf (x0 / x2) σ h)
      · refine g_lload hC dJ9_floorDiv_f86c9_22 0 rfl ?_
        refine g_lconst (v := 1) hC dJ9_floorDiv_f86c9_24 (by decide) ?_
        refine g_lsub hC dJ9_floorDiv_f86c9_25 ?_
        exact g_lret hC hR dJ9_floorDiv_f86c9_26 h
theorem xk_J9_floorDiv_f86c9 (R : Room) (h1 : 0 + 1 ≤ R.frames) (h2 : 37 ≤ R.locals) : xw R yJ9_floorDiv_f86c9 w_J9_floorDiv_f86c9 GT cJ9_floorDiv_f86c9 6 (some .long) rm_J9_floorDiv_f86c9 2 := ⟨rfl, rfl, rfl, h1, h2, ⟨by decide, by decide⟩, by decide +kernel⟩
theorem c_J9_floorDiv_f86c9 (E : ET) (hE : EO E) (x0 : Int64) (x2 : Int64) (σ : HS) (hn : f_J9_floorDiv_f86c9 x0 x2 σ ≠ none) : CoJ E yJ9_floorDiv_f86c9 w_J9_floorDiv_f86c9 rm_J9_floorDiv_f86c9 [.long x0, .long x2] σ (f_J9_floorDiv_f86c9 x0 x2 σ) := CoJ.of (lv := [(0, .long x0), (2, .long x2)]) hE (by decide +kernel) rfl (Nat.le_of_ble_eq_true rfl) rfl (fun F hC hO hR => k_J9_floorDiv_f86c9_0 hC hO hR hn x0 x2 σ rfl)
def rm_J9_max_7cf53 : Room := { frames := 0, cells := 0, slots := 0, locals := 0 }
set_option maxHeartbeats 4000000 in
set_option maxRecDepth 100000 in
theorem k_J9_max_7cf53_10 {E : ET} {F : FT} {fo : Option (Int32 × HS)} (hC : Cx E F 2 cJ9_max_7cf53 RJ9 GT) (hO : Ro F rm_J9_max_7cf53) (hR : RI E F .int fo) (hf : fo ≠ none) (s0 : Int32) (σ : HS) (h : f_J9_max_7cf53_10 s0 σ = fo) : G E F 10 [] [.int s0] σ := by
    exact g_iret hC hR dJ9_max_7cf53_10 rfl h
set_option maxHeartbeats 4000000 in
set_option maxRecDepth 100000 in
theorem k_J9_max_7cf53_0 {E : ET} {F : FT} {fo : Option (Int32 × HS)} (hC : Cx E F 2 cJ9_max_7cf53 RJ9 GT) (hO : Ro F rm_J9_max_7cf53) (hR : RI E F .int fo) (hf : fo ≠ none) (x0 : Int32) (x1 : Int32) (σ : HS) (h : f_J9_max_7cf53 x0 x1 σ = fo) : G E F 0 [(0, .int x0), (1, .int x1)] [] σ := by
    refine g_iload_n hC dJ9_max_7cf53_0 rfl 0 rfl ?_
    refine g_iload_n hC dJ9_max_7cf53_1 rfl 1 rfl ?_
    refine g_icmp_lt (tgt := 9) hC dJ9_max_7cf53_2 (by decide) h (fun c2 h => ?_) (fun c2 h => ?_)
    · refine g_iload_n hC dJ9_max_7cf53_9 rfl 1 rfl ?_
      exact g_sub [] rfl (k_J9_max_7cf53_10 hC hO hR hf x1 σ h)
    · refine g_iload_n hC dJ9_max_7cf53_5 rfl 0 rfl ?_
      refine g_goto (tgt := 10) hC dJ9_max_7cf53_6 (by decide) ?_
      exact g_sub [] rfl (k_J9_max_7cf53_10 hC hO hR hf x0 σ h)
theorem xk_J9_max_7cf53 (R : Room) (h1 : 0 + 1 ≤ R.frames) (h2 : 33 ≤ R.locals) : xw R yJ9_max_7cf53 w_J9_max_7cf53 GT cJ9_max_7cf53 2 (some .int) rm_J9_max_7cf53 2 := ⟨rfl, rfl, rfl, h1, h2, ⟨by decide, by decide⟩, by decide +kernel⟩
theorem c_J9_max_7cf53 (E : ET) (hE : EO E) (x0 : Int32) (x1 : Int32) (σ : HS) (hn : f_J9_max_7cf53 x0 x1 σ ≠ none) : CoI E yJ9_max_7cf53 w_J9_max_7cf53 rm_J9_max_7cf53 [.int x0, .int x1] σ (f_J9_max_7cf53 x0 x1 σ) := CoI.of (lv := [(0, .int x0), (1, .int x1)]) hE (by decide +kernel) rfl (Nat.le_of_ble_eq_true rfl) rfl (fun F hC hO hR => k_J9_max_7cf53_0 hC hO hR hn x0 x1 σ rfl)
def rm_J9_max_f86c9 : Room := { frames := 0, cells := 0, slots := 0, locals := 0 }
set_option maxHeartbeats 4000000 in
set_option maxRecDepth 100000 in
theorem k_J9_max_f86c9_11 {E : ET} {F : FT} {fo : Option (Int64 × HS)} (hC : Cx E F 4 cJ9_max_f86c9 RJ9 GT) (hO : Ro F rm_J9_max_f86c9) (hR : RJ E F fo) (hf : fo ≠ none) (s0 : Int64) (σ : HS) (h : f_J9_max_f86c9_11 s0 σ = fo) : G E F 11 [] [.long s0] σ := by
    exact g_lret hC hR dJ9_max_f86c9_11 h
set_option maxHeartbeats 4000000 in
set_option maxRecDepth 100000 in
theorem k_J9_max_f86c9_0 {E : ET} {F : FT} {fo : Option (Int64 × HS)} (hC : Cx E F 4 cJ9_max_f86c9 RJ9 GT) (hO : Ro F rm_J9_max_f86c9) (hR : RJ E F fo) (hf : fo ≠ none) (x0 : Int64) (x2 : Int64) (σ : HS) (h : f_J9_max_f86c9 x0 x2 σ = fo) : G E F 0 [(0, .long x0), (2, .long x2)] [] σ := by
    refine g_lload_n hC dJ9_max_f86c9_0 rfl 0 rfl ?_
    refine g_lload_n hC dJ9_max_f86c9_1 rfl 1 rfl ?_
    refine g_lc_lt (tgt := 10) hC dJ9_max_f86c9_2 dJ9_max_f86c9_3 (by decide) h (fun c2 h => ?_) (fun c2 h => ?_)
    · refine g_lload_n hC dJ9_max_f86c9_10 rfl 1 rfl ?_
      exact g_sub [] rfl (k_J9_max_f86c9_11 hC hO hR hf x2 σ h)
    · refine g_lload_n hC dJ9_max_f86c9_6 rfl 0 rfl ?_
      refine g_goto (tgt := 11) hC dJ9_max_f86c9_7 (by decide) ?_
      exact g_sub [] rfl (k_J9_max_f86c9_11 hC hO hR hf x0 σ h)
theorem xk_J9_max_f86c9 (R : Room) (h1 : 0 + 1 ≤ R.frames) (h2 : 35 ≤ R.locals) : xw R yJ9_max_f86c9 w_J9_max_f86c9 GT cJ9_max_f86c9 4 (some .long) rm_J9_max_f86c9 2 := ⟨rfl, rfl, rfl, h1, h2, ⟨by decide, by decide⟩, by decide +kernel⟩
theorem c_J9_max_f86c9 (E : ET) (hE : EO E) (x0 : Int64) (x2 : Int64) (σ : HS) (hn : f_J9_max_f86c9 x0 x2 σ ≠ none) : CoJ E yJ9_max_f86c9 w_J9_max_f86c9 rm_J9_max_f86c9 [.long x0, .long x2] σ (f_J9_max_f86c9 x0 x2 σ) := CoJ.of (lv := [(0, .long x0), (2, .long x2)]) hE (by decide +kernel) rfl (Nat.le_of_ble_eq_true rfl) rfl (fun F hC hO hR => k_J9_max_f86c9_0 hC hO hR hn x0 x2 σ rfl)
def rm_J9_min_7cf53 : Room := { frames := 0, cells := 0, slots := 0, locals := 0 }
set_option maxHeartbeats 4000000 in
set_option maxRecDepth 100000 in
theorem k_J9_min_7cf53_10 {E : ET} {F : FT} {fo : Option (Int32 × HS)} (hC : Cx E F 2 cJ9_min_7cf53 RJ9 GT) (hO : Ro F rm_J9_min_7cf53) (hR : RI E F .int fo) (hf : fo ≠ none) (s0 : Int32) (σ : HS) (h : f_J9_min_7cf53_10 s0 σ = fo) : G E F 10 [] [.int s0] σ := by
    exact g_iret hC hR dJ9_min_7cf53_10 rfl h
set_option maxHeartbeats 4000000 in
set_option maxRecDepth 100000 in
theorem k_J9_min_7cf53_0 {E : ET} {F : FT} {fo : Option (Int32 × HS)} (hC : Cx E F 2 cJ9_min_7cf53 RJ9 GT) (hO : Ro F rm_J9_min_7cf53) (hR : RI E F .int fo) (hf : fo ≠ none) (x0 : Int32) (x1 : Int32) (σ : HS) (h : f_J9_min_7cf53 x0 x1 σ = fo) : G E F 0 [(0, .int x0), (1, .int x1)] [] σ := by
    refine g_iload_n hC dJ9_min_7cf53_0 rfl 0 rfl ?_
    refine g_iload_n hC dJ9_min_7cf53_1 rfl 1 rfl ?_
    refine g_icmp_gt (tgt := 9) hC dJ9_min_7cf53_2 (by decide) h (fun c2 h => ?_) (fun c2 h => ?_)
    · refine g_iload_n hC dJ9_min_7cf53_9 rfl 1 rfl ?_
      exact g_sub [] rfl (k_J9_min_7cf53_10 hC hO hR hf x1 σ h)
    · refine g_iload_n hC dJ9_min_7cf53_5 rfl 0 rfl ?_
      refine g_goto (tgt := 10) hC dJ9_min_7cf53_6 (by decide) ?_
      exact g_sub [] rfl (k_J9_min_7cf53_10 hC hO hR hf x0 σ h)
theorem xk_J9_min_7cf53 (R : Room) (h1 : 0 + 1 ≤ R.frames) (h2 : 33 ≤ R.locals) : xw R yJ9_min_7cf53 w_J9_min_7cf53 GT cJ9_min_7cf53 2 (some .int) rm_J9_min_7cf53 2 := ⟨rfl, rfl, rfl, h1, h2, ⟨by decide, by decide⟩, by decide +kernel⟩
theorem c_J9_min_7cf53 (E : ET) (hE : EO E) (x0 : Int32) (x1 : Int32) (σ : HS) (hn : f_J9_min_7cf53 x0 x1 σ ≠ none) : CoI E yJ9_min_7cf53 w_J9_min_7cf53 rm_J9_min_7cf53 [.int x0, .int x1] σ (f_J9_min_7cf53 x0 x1 σ) := CoI.of (lv := [(0, .int x0), (1, .int x1)]) hE (by decide +kernel) rfl (Nat.le_of_ble_eq_true rfl) rfl (fun F hC hO hR => k_J9_min_7cf53_0 hC hO hR hn x0 x1 σ rfl)
def rm_X0_clear : Room := { frames := 0, cells := 0, slots := 0, locals := 0 }
theorem fl_X0_39 : Cond.fieldLink RX0 39 "EveryMeasure$Choice" (TX0 9).2.1 (TX0 9).2.2.1 ∈ GT := gtr_7 _ (List.mem_of_getElem? (i := 22) rfl)
theorem fl_X0_9 : Cond.fieldLink RX0 9 "EveryMeasure$Choice" (TX0 0).2.1 (TX0 0).2.2.1 ∈ GT := gtr_7 _ (List.mem_of_getElem? (i := 13) rfl)
theorem fl_X0_15 : Cond.fieldLink RX0 15 "EveryMeasure$Choice" (TX0 1).2.1 (TX0 1).2.2.1 ∈ GT := gtr_7 _ (List.mem_of_getElem? (i := 14) rfl)
theorem fl_X0_18 : Cond.fieldLink RX0 18 "EveryMeasure$Choice" (TX0 2).2.1 (TX0 2).2.2.1 ∈ GT := gtr_7 _ (List.mem_of_getElem? (i := 15) rfl)
set_option maxHeartbeats 4000000 in
set_option maxRecDepth 100000 in
theorem k_X0_clear_2 {E : ET} {F : FT} {fo : Option HS} (hC : Cx E F 2 cX0_clear RX0 GT) (hO : Ro F rm_X0_clear) (hR : RV E F fo) (hf : fo ≠ none) (t : Nat) (ht1 : kd t = 0) (ht2 : AL E t) : ∀ (n : Nat) (x1 : Int32) (σ : HS), f_X0_clear_2 t n x1 σ = fo → G E F 2 [(0, .ref (E.2.2.1 t)), (1, .int x1)] [] σ := by
  intro n
  induction n with
  | zero =>
    intro x1 σ h
    exact absurd (h.symm.trans rfl) hf
  | succ n ih =>
    intro x1 σ h
    refine g_iload_n hC dX0_clear_2 rfl 1 rfl ?_
    refine g_iconst (v := 4) hC dX0_clear_3 (by decide) ?_
    refine g_icmp_ge (tgt := 34) hC dX0_clear_4 (by decide) h (fun c4 h => ?_) (fun c4 h => ?_)
    · refine g_aload_n hC dX0_clear_34 rfl 0 rfl ?_
      refine g_iconst (v := 0) hC dX0_clear_35 (by decide) ?_
      refine g_putI (k := 9) hC cr0 ui_0 tyX0_ok nmX0 ht1 ht2 (by decide) fl_X0_39 rfl rfl rfl rfl dX0_clear_36 ?_
      exact g_vret hC hR dX0_clear_39 h
    · refine g_aload_n hC dX0_clear_7 rfl 0 rfl ?_
      refine g_getR (cj := 14) (k := 0) hC cr0 ui_0 ht1 ht2 (by decide) fl_X0_9 rfl rfl dX0_clear_8 h hf (fun a1 ea1 ka1 na1 h => ?_)
      refine g_iload_n hC dX0_clear_11 rfl 1 rfl ?_
      refine g_iconst (v := (-1)) hC dX0_clear_12 (by decide) ?_
      refine g_iast hC ka1 na1 dX0_clear_13 h hf (fun h => ?_)
      refine g_aload_n hC dX0_clear_14 rfl 0 rfl ?_
      refine g_getR (cj := 14) (k := 1) hC cr0 ui_0 ht1 ht2 (by decide) fl_X0_15 rfl rfl dX0_clear_15 h hf (fun a2 ea2 ka2 na2 h => ?_)
      refine g_iload_n hC dX0_clear_18 rfl 1 rfl ?_
      refine g_iconst (v := (-1)) hC dX0_clear_19 (by decide) ?_
      refine g_iast hC ka2 na2 dX0_clear_20 h hf (fun h => ?_)
      refine g_aload_n hC dX0_clear_21 rfl 0 rfl ?_
      refine g_getR (cj := 14) (k := 2) hC cr0 ui_0 ht1 ht2 (by decide) fl_X0_18 rfl rfl dX0_clear_22 h hf (fun a3 ea3 ka3 na3 h => ?_)
      refine g_iload_n hC dX0_clear_25 rfl 1 rfl ?_
      refine g_iconst (v := (-1)) hC dX0_clear_26 (by decide) ?_
      refine g_iast hC ka3 na3 dX0_clear_27 h hf (fun h => ?_)
      refine g_iinc (v := x1 + 1) (lv' := [(1, .int (x1 + 1)), (0, .ref (E.2.2.1 t))]) hC dX0_clear_28 1 rfl rfl (by decide) rfl ?_
      refine g_goto (tgt := 2) hC dX0_clear_31 (by decide) ?_
      exact g_sub [1, 0] rfl (ih (x1 + 1) (sI (sI (sI σ a1 x1.toNatClampNeg (-1)) a2 x1.toNatClampNeg (-1)) a3 x1.toNatClampNeg (-1)) h)
set_option maxHeartbeats 4000000 in
set_option maxRecDepth 100000 in
theorem k_X0_clear_0 {E : ET} {F : FT} {fo : Option HS} (hC : Cx E F 2 cX0_clear RX0 GT) (hO : Ro F rm_X0_clear) (hR : RV E F fo) (hf : fo ≠ none) (t : Nat) (ht1 : kd t = 0) (ht2 : AL E t) (σ : HS) (h : f_X0_clear t σ = fo) : G E F 0 [(0, .ref (E.2.2.1 t))] [] σ := by
    refine g_iconst (v := 0) hC dX0_clear_0 (by decide) ?_
    refine g_istore_n (lv' := [(1, .int 0), (0, .ref (E.2.2.1 t))]) hC dX0_clear_1 rfl (by decide) rfl ?_
    exact g_sub [1, 0] rfl (k_X0_clear_2 hC hO hR hf t ht1 ht2 FU 0 σ h)
theorem xk_X0_clear (R : Room) (h1 : 0 + 1 ≤ R.frames) (h2 : 33 ≤ R.locals) : xw R yX0_clear w_X0_clear GT cX0_clear 2 none rm_X0_clear 0 := ⟨rfl, rfl, rfl, h1, h2, ⟨by decide, by decide⟩, by decide +kernel⟩
theorem c_X0_clear (E : ET) (hE : EO E) (t : Nat) (ht1 : kd t = 0) (ht2 : AL E t) (σ : HS) (hn : f_X0_clear t σ ≠ none) : CoV E yX0_clear w_X0_clear rm_X0_clear [.ref (E.2.2.1 t)] σ (f_X0_clear t σ) := CoV.of (lv := [(0, .ref (E.2.2.1 t))]) hE (plainFor_of_name (by decide)) rfl (Nat.le_of_ble_eq_true rfl) rfl (fun F hC hO hR => k_X0_clear_0 hC hO hR hn t ht1 ht2 σ rfl)
def rm_X0_say : Room := { frames := 0, cells := 0, slots := 0, locals := 0 }
theorem fl_X0_21 : Cond.fieldLink RX0 21 "EveryMeasure$Choice" (TX0 3).2.1 (TX0 3).2.2.1 ∈ GT := gtr_7 _ (List.mem_of_getElem? (i := 16) rfl)
theorem fl_X0_24 : Cond.fieldLink RX0 24 "EveryMeasure$Choice" (TX0 4).2.1 (TX0 4).2.2.1 ∈ GT := gtr_7 _ (List.mem_of_getElem? (i := 17) rfl)
theorem fl_X0_27 : Cond.fieldLink RX0 27 "EveryMeasure$Choice" (TX0 5).2.1 (TX0 5).2.2.1 ∈ GT := gtr_7 _ (List.mem_of_getElem? (i := 18) rfl)
theorem fl_X0_30 : Cond.fieldLink RX0 30 "EveryMeasure$Choice" (TX0 6).2.1 (TX0 6).2.2.1 ∈ GT := gtr_7 _ (List.mem_of_getElem? (i := 19) rfl)
theorem fl_X0_33 : Cond.fieldLink RX0 33 "EveryMeasure$Choice" (TX0 7).2.1 (TX0 7).2.2.1 ∈ GT := gtr_7 _ (List.mem_of_getElem? (i := 20) rfl)
theorem fl_X0_36 : Cond.fieldLink RX0 36 "EveryMeasure$Choice" (TX0 8).2.1 (TX0 8).2.2.1 ∈ GT := gtr_7 _ (List.mem_of_getElem? (i := 21) rfl)
set_option maxHeartbeats 4000000 in
set_option maxRecDepth 100000 in
theorem k_X0_say_0 {E : ET} {F : FT} {fo : Option HS} (hC : Cx E F 7 cX0_say RX0 GT) (hO : Ro F rm_X0_say) (hR : RV E F fo) (hf : fo ≠ none) (t : Nat) (ht1 : kd t = 0) (ht2 : AL E t) (x1 : Int32) (x2 : Int32) (x3 : Int32) (x4 : Int32) (x5 : Int32) (x6 : Int32) (σ : HS) (h : f_X0_say t x1 x2 x3 x4 x5 x6 σ = fo) : G E F 0 [(0, .ref (E.2.2.1 t)), (1, .int x1), (2, .int x2), (3, .int x3), (4, .int x4), (5, .int x5), (6, .int x6)] [] σ := by
    refine g_aload_n hC dX0_say_0 rfl 0 rfl ?_
    refine g_getI (k := 9) hC cr0 ui_0 ht1 ht2 (by decide) fl_X0_39 rfl rfl dX0_say_1 ?_
    refine g_bipush (v := 12) hC dX0_say_4 (by decide) ?_
    refine g_icmp_lt (tgt := 10) hC dX0_say_6 (by decide) h (fun c6 h => ?_) (fun c6 h => ?_)
    · refine g_aload_n hC dX0_say_10 rfl 0 rfl ?_
      refine g_getR (cj := 14) (k := 3) hC cr0 ui_0 ht1 ht2 (by decide) fl_X0_21 rfl rfl dX0_say_11 h hf (fun a1 ea1 ka1 na1 h => ?_)
      refine g_aload_n hC dX0_say_14 rfl 0 rfl ?_
      refine g_getI (k := 9) hC cr0 ui_0 ht1 ht2 (by decide) fl_X0_39 rfl rfl dX0_say_15 ?_
      refine g_iload_n hC dX0_say_18 rfl 1 rfl ?_
      refine g_iast hC ka1 na1 dX0_say_19 h hf (fun h => ?_)
      refine g_aload_n hC dX0_say_20 rfl 0 rfl ?_
      refine g_getR (cj := 14) (k := 4) hC cr0 ui_0 ht1 ht2 (by decide) fl_X0_24 rfl rfl dX0_say_21 h hf (fun a2 ea2 ka2 na2 h => ?_)
      refine g_aload_n hC dX0_say_24 rfl 0 rfl ?_
      refine g_getI (k := 9) hC cr0 ui_0 ht1 ht2 (by decide) fl_X0_39 rfl rfl dX0_say_25 ?_
      refine g_iload_n hC dX0_say_28 rfl 2 rfl ?_
      refine g_iast hC ka2 na2 dX0_say_29 h hf (fun h => ?_)
      refine g_aload_n hC dX0_say_30 rfl 0 rfl ?_
      refine g_getR (cj := 14) (k := 5) hC cr0 ui_0 ht1 ht2 (by decide) fl_X0_27 rfl rfl dX0_say_31 h hf (fun a3 ea3 ka3 na3 h => ?_)
      refine g_aload_n hC dX0_say_34 rfl 0 rfl ?_
      refine g_getI (k := 9) hC cr0 ui_0 ht1 ht2 (by decide) fl_X0_39 rfl rfl dX0_say_35 ?_
      refine g_iload_n hC dX0_say_38 rfl 3 rfl ?_
      refine g_iast hC ka3 na3 dX0_say_39 h hf (fun h => ?_)
      refine g_aload_n hC dX0_say_40 rfl 0 rfl ?_
      refine g_getR (cj := 14) (k := 6) hC cr0 ui_0 ht1 ht2 (by decide) fl_X0_30 rfl rfl dX0_say_41 h hf (fun a4 ea4 ka4 na4 h => ?_)
      refine g_aload_n hC dX0_say_44 rfl 0 rfl ?_
      refine g_getI (k := 9) hC cr0 ui_0 ht1 ht2 (by decide) fl_X0_39 rfl rfl dX0_say_45 ?_
      refine g_iload hC dX0_say_48 4 rfl ?_
      refine g_iast hC ka4 na4 dX0_say_50 h hf (fun h => ?_)
      refine g_aload_n hC dX0_say_51 rfl 0 rfl ?_
      refine g_getR (cj := 14) (k := 7) hC cr0 ui_0 ht1 ht2 (by decide) fl_X0_33 rfl rfl dX0_say_52 h hf (fun a5 ea5 ka5 na5 h => ?_)
      refine g_aload_n hC dX0_say_55 rfl 0 rfl ?_
      refine g_getI (k := 9) hC cr0 ui_0 ht1 ht2 (by decide) fl_X0_39 rfl rfl dX0_say_56 ?_
      refine g_iload hC dX0_say_59 5 rfl ?_
      refine g_iast hC ka5 na5 dX0_say_61 h hf (fun h => ?_)
      refine g_aload_n hC dX0_say_62 rfl 0 rfl ?_
      refine g_getR (cj := 14) (k := 8) hC cr0 ui_0 ht1 ht2 (by decide) fl_X0_36 rfl rfl dX0_say_63 h hf (fun a6 ea6 ka6 na6 h => ?_)
      refine g_aload_n hC dX0_say_66 rfl 0 rfl ?_
      refine g_getI (k := 9) hC cr0 ui_0 ht1 ht2 (by decide) fl_X0_39 rfl rfl dX0_say_67 ?_
      refine g_iload hC dX0_say_70 6 rfl ?_
      refine g_iast hC ka6 na6 dX0_say_72 h hf (fun h => ?_)
      refine g_aload_n hC dX0_say_73 rfl 0 rfl ?_
      refine g_dup hC dX0_say_74 rfl ?_
      refine g_getI (k := 9) hC cr0 ui_0 ht1 ht2 (by decide) fl_X0_39 rfl rfl dX0_say_75 ?_
      refine g_iconst (v := 1) hC dX0_say_78 (by decide) ?_
      refine g_iadd hC dX0_say_79 ?_
      refine g_putI (k := 9) hC cr0 ui_0 tyX0_ok nmX0 ht1 ht2 (by decide) fl_X0_39 rfl rfl rfl rfl dX0_say_80 ?_
      exact g_vret hC hR dX0_say_83 h
    · exact g_vret hC hR dX0_say_9 h
theorem xk_X0_say (R : Room) (h1 : 0 + 1 ≤ R.frames) (h2 : 38 ≤ R.locals) : xw R yX0_say w_X0_say GT cX0_say 7 none rm_X0_say 6 := ⟨rfl, rfl, rfl, h1, h2, ⟨by decide, by decide⟩, by decide +kernel⟩
theorem c_X0_say (E : ET) (hE : EO E) (t : Nat) (ht1 : kd t = 0) (ht2 : AL E t) (x1 : Int32) (x2 : Int32) (x3 : Int32) (x4 : Int32) (x5 : Int32) (x6 : Int32) (σ : HS) (hn : f_X0_say t x1 x2 x3 x4 x5 x6 σ ≠ none) : CoV E yX0_say w_X0_say rm_X0_say [.ref (E.2.2.1 t), .int x1, .int x2, .int x3, .int x4, .int x5, .int x6] σ (f_X0_say t x1 x2 x3 x4 x5 x6 σ) := CoV.of (lv := [(0, .ref (E.2.2.1 t)), (1, .int x1), (2, .int x2), (3, .int x3), (4, .int x4), (5, .int x5), (6, .int x6)]) hE (plainFor_of_name (by decide)) rfl (Nat.le_of_ble_eq_true rfl) rfl (fun F hC hO hR => k_X0_say_0 hC hO hR hn t ht1 ht2 x1 x2 x3 x4 x5 x6 σ rfl)
def rm_X0_sayingsOf : Room := { frames := 0, cells := 0, slots := 0, locals := 0 }
set_option maxHeartbeats 4000000 in
set_option maxRecDepth 100000 in
theorem k_X0_sayingsOf_31 {E : ET} {F : FT} {fo : Option (Int32 × HS)} (hC : Cx E F 4 cX0_sayingsOf RX0 GT) (hO : Ro F rm_X0_sayingsOf) (hR : RI E F .int fo) (hf : fo ≠ none) (t : Nat) (ht1 : kd t = 0) (ht2 : AL E t) (x1 : Int32) (x2 : Int32) (x3 : Int32) (r4 : Int32 → Int32 → HS → Option (Int32 × HS)) (h4 : ∀ (x2 : Int32) (x3 : Int32) (σ : HS), r4 x2 x3 σ = fo → G E F 4 [(0, .ref (E.2.2.1 t)), (1, .int x1), (2, .int x2), (3, .int x3)] [] σ) (σ : HS) (h : f_X0_sayingsOf_31 r4 t x1 x2 x3 σ = fo) : G E F 31 [(0, .ref (E.2.2.1 t)), (1, .int x1), (2, .int x2), (3, .int x3)] [] σ := by
    refine g_iinc (v := x3 + 1) (lv' := [(3, .int (x3 + 1)), (0, .ref (E.2.2.1 t)), (1, .int x1), (2, .int x2)]) hC dX0_sayingsOf_31 3 rfl rfl (by decide) rfl ?_
    refine g_goto (tgt := 4) hC dX0_sayingsOf_34 (by decide) ?_
    exact g_sub [1, 2, 3, 0] rfl (h4 x2 (x3 + 1) σ h)
set_option maxHeartbeats 4000000 in
set_option maxRecDepth 100000 in
theorem k_X0_sayingsOf_4 {E : ET} {F : FT} {fo : Option (Int32 × HS)} (hC : Cx E F 4 cX0_sayingsOf RX0 GT) (hO : Ro F rm_X0_sayingsOf) (hR : RI E F .int fo) (hf : fo ≠ none) (t : Nat) (ht1 : kd t = 0) (ht2 : AL E t) (x1 : Int32) : ∀ (n : Nat) (x2 : Int32) (x3 : Int32) (σ : HS), f_X0_sayingsOf_4 t x1 n x2 x3 σ = fo → G E F 4 [(0, .ref (E.2.2.1 t)), (1, .int x1), (2, .int x2), (3, .int x3)] [] σ := by
  intro n
  induction n with
  | zero =>
    intro x2 x3 σ h
    exact absurd (h.symm.trans rfl) hf
  | succ n ih =>
    intro x2 x3 σ h
    refine g_iload_n hC dX0_sayingsOf_4 rfl 3 rfl ?_
    refine g_aload_n hC dX0_sayingsOf_5 rfl 0 rfl ?_
    refine g_getI (k := 9) hC cr0 ui_0 ht1 ht2 (by decide) fl_X0_39 rfl rfl dX0_sayingsOf_6 ?_
    refine g_icmp_ge (tgt := 37) hC dX0_sayingsOf_9 (by decide) h (fun c9 h => ?_) (fun c9 h => ?_)
    · refine g_iload_n hC dX0_sayingsOf_37 rfl 2 rfl ?_
      exact g_iret hC hR dX0_sayingsOf_38 rfl h
    · refine g_iload_n hC dX0_sayingsOf_12 rfl 1 rfl ?_
      refine g_iconst (v := 1) hC dX0_sayingsOf_13 (by decide) ?_
      refine g_aload_n hC dX0_sayingsOf_14 rfl 0 rfl ?_
      refine g_getR (cj := 14) (k := 3) hC cr0 ui_0 ht1 ht2 (by decide) fl_X0_21 rfl rfl dX0_sayingsOf_15 h hf (fun a1 ea1 ka1 na1 h => ?_)
      refine g_iload_n hC dX0_sayingsOf_18 rfl 3 rfl ?_
      refine g_iald hC ka1 na1 dX0_sayingsOf_19 h hf (fun h => ?_)
      refine g_ishl hC dX0_sayingsOf_20 ?_
      refine g_iand hC dX0_sayingsOf_21 ?_
      refine g_if_eq (tgt := 31) hC dX0_sayingsOf_22 (by decide) h (fun c22 h => ?_) (fun c22 h => ?_)
      · exact g_sub [0, 1, 2, 3] rfl (k_X0_sayingsOf_31 hC hO hR hf t ht1 ht2 x1 x2 x3 (f_X0_sayingsOf_4 t x1 n) ih σ h)
      · refine g_iload_n hC dX0_sayingsOf_25 rfl 2 rfl ?_
        refine g_iconst (v := 1) hC dX0_sayingsOf_26 (by decide) ?_
        refine g_iload_n hC dX0_sayingsOf_27 rfl 3 rfl ?_
        refine g_ishl hC dX0_sayingsOf_28 ?_
        refine g_ior hC dX0_sayingsOf_29 ?_
        refine g_istore_n (lv' := [(2, .int (x2 ||| ((1 : Int32) <<< (x3 &&& 31)))), (0, .ref (E.2.2.1 t)), (1, .int x1), (3, .int x3)]) hC dX0_sayingsOf_30 rfl (by decide) rfl ?_
        exact g_sub [1, 2, 0, 3] rfl (k_X0_sayingsOf_31 hC hO hR hf t ht1 ht2 x1 (x2 ||| ((1 : Int32) <<< (x3 &&& 31))) x3 (f_X0_sayingsOf_4 t x1 n) ih σ h)
set_option maxHeartbeats 4000000 in
set_option maxRecDepth 100000 in
theorem k_X0_sayingsOf_0 {E : ET} {F : FT} {fo : Option (Int32 × HS)} (hC : Cx E F 4 cX0_sayingsOf RX0 GT) (hO : Ro F rm_X0_sayingsOf) (hR : RI E F .int fo) (hf : fo ≠ none) (t : Nat) (ht1 : kd t = 0) (ht2 : AL E t) (x1 : Int32) (σ : HS) (h : f_X0_sayingsOf t x1 σ = fo) : G E F 0 [(0, .ref (E.2.2.1 t)), (1, .int x1)] [] σ := by
    refine g_iconst (v := 0) hC dX0_sayingsOf_0 (by decide) ?_
    refine g_istore_n (lv' := [(2, .int 0), (0, .ref (E.2.2.1 t)), (1, .int x1)]) hC dX0_sayingsOf_1 rfl (by decide) rfl ?_
    refine g_iconst (v := 0) hC dX0_sayingsOf_2 (by decide) ?_
    refine g_istore_n (lv' := [(3, .int 0), (2, .int 0), (0, .ref (E.2.2.1 t)), (1, .int x1)]) hC dX0_sayingsOf_3 rfl (by decide) rfl ?_
    exact g_sub [2, 3, 1, 0] rfl (k_X0_sayingsOf_4 hC hO hR hf t ht1 ht2 x1 FU 0 0 σ h)
theorem xk_X0_sayingsOf (R : Room) (h1 : 0 + 1 ≤ R.frames) (h2 : 35 ≤ R.locals) : xw R yX0_sayingsOf w_X0_sayingsOf GT cX0_sayingsOf 4 (some .int) rm_X0_sayingsOf 1 := ⟨rfl, rfl, rfl, h1, h2, ⟨by decide, by decide⟩, by decide +kernel⟩
theorem c_X0_sayingsOf (E : ET) (hE : EO E) (t : Nat) (ht1 : kd t = 0) (ht2 : AL E t) (x1 : Int32) (σ : HS) (hn : f_X0_sayingsOf t x1 σ ≠ none) : CoI E yX0_sayingsOf w_X0_sayingsOf rm_X0_sayingsOf [.ref (E.2.2.1 t), .int x1] σ (f_X0_sayingsOf t x1 σ) := CoI.of (lv := [(0, .ref (E.2.2.1 t)), (1, .int x1)]) hE (plainFor_of_name (by decide)) rfl (Nat.le_of_ble_eq_true rfl) rfl (fun F hC hO hR => k_X0_sayingsOf_0 hC hO hR hn t ht1 ht2 x1 σ rfl)
def rm_X9_isTold : Room := { frames := 0, cells := 0, slots := 0, locals := 0 }
theorem fl_X9_23 : Cond.fieldLink RX9 23 "EveryMeasure$Things" (TX9 3).2.1 (TX9 3).2.2.1 ∈ GT := gtr_4 _ (List.mem_of_getElem? (i := 11) rfl)
set_option maxHeartbeats 4000000 in
set_option maxRecDepth 100000 in
theorem k_X9_isTold_26 {E : ET} {F : FT} {fo : Option (Int32 × HS)} (hC : Cx E F 2 cX9_isTold RX9 GT) (hO : Ro F rm_X9_isTold) (hR : RI E F .boolean fo) (hf : fo ≠ none) (s0 : Int32) (σ : HS) (h : f_X9_isTold_26 s0 σ = fo) : G E F 26 [] [.int s0] σ := by
    obtain ⟨hz, h⟩ := zr_of h hf
    exact g_iret hC hR dX9_isTold_26 hz h
set_option maxHeartbeats 4000000 in
set_option maxRecDepth 100000 in
theorem k_X9_isTold_25 {E : ET} {F : FT} {fo : Option (Int32 × HS)} (hC : Cx E F 2 cX9_isTold RX9 GT) (hO : Ro F rm_X9_isTold) (hR : RI E F .boolean fo) (hf : fo ≠ none) (σ : HS) (h : f_X9_isTold_25 σ = fo) : G E F 25 [] [] σ := by
    refine g_iconst (v := 0) hC dX9_isTold_25 (by decide) ?_
    exact g_sub [] rfl (k_X9_isTold_26 hC hO hR hf 0 σ h)
set_option maxHeartbeats 4000000 in
set_option maxRecDepth 100000 in
theorem k_X9_isTold_0 {E : ET} {F : FT} {fo : Option (Int32 × HS)} (hC : Cx E F 2 cX9_isTold RX9 GT) (hO : Ro F rm_X9_isTold) (hR : RI E F .boolean fo) (hf : fo ≠ none) (t : Nat) (ht1 : kd t = 9) (ht2 : AL E t) (x1 : Int32) (σ : HS) (h : f_X9_isTold t x1 σ = fo) : G E F 0 [(0, .ref (E.2.2.1 t)), (1, .int x1)] [] σ := by
    refine g_iload_n hC dX9_isTold_0 rfl 1 rfl ?_
    refine g_if_lt (tgt := 25) hC dX9_isTold_1 (by decide) h (fun c1 h => ?_) (fun c1 h => ?_)
    · exact g_sub [] rfl (k_X9_isTold_25 hC hO hR hf σ h)
    · refine g_iload_n hC dX9_isTold_4 rfl 1 rfl ?_
      refine g_bipush (v := 8) hC dX9_isTold_5 (by decide) ?_
      refine g_icmp_ge (tgt := 25) hC dX9_isTold_7 (by decide) h (fun c7 h => ?_) (fun c7 h => ?_)
      · exact g_sub [] rfl (k_X9_isTold_25 hC hO hR hf σ h)
      · refine g_aload_n hC dX9_isTold_10 rfl 0 rfl ?_
        refine g_getI (k := 3) hC cr9 ui_9 ht1 ht2 (by decide) fl_X9_23 rfl rfl dX9_isTold_11 ?_
        refine g_iconst (v := 1) hC dX9_isTold_14 (by decide) ?_
        refine g_iload_n hC dX9_isTold_15 rfl 1 rfl ?_
        refine g_ishl hC dX9_isTold_16 ?_
        refine g_iand hC dX9_isTold_17 ?_
        refine g_if_eq (tgt := 25) hC dX9_isTold_18 (by decide) h (fun c18 h => ?_) (fun c18 h => ?_)
        · exact g_sub [] rfl (k_X9_isTold_25 hC hO hR hf σ h)
        · refine g_iconst (v := 1) hC dX9_isTold_21 (by decide) ?_
          refine g_goto (tgt := 26) hC dX9_isTold_22 (by decide) ?_
          exact g_sub [] rfl (k_X9_isTold_26 hC hO hR hf 1 σ h)
theorem xk_X9_isTold (R : Room) (h1 : 0 + 1 ≤ R.frames) (h2 : 33 ≤ R.locals) : xw R yX9_isTold w_X9_isTold GT cX9_isTold 2 (some .boolean) rm_X9_isTold 1 := ⟨rfl, rfl, rfl, h1, h2, ⟨by decide, by decide⟩, by decide +kernel⟩
theorem c_X9_isTold (E : ET) (hE : EO E) (t : Nat) (ht1 : kd t = 9) (ht2 : AL E t) (x1 : Int32) (σ : HS) (hn : f_X9_isTold t x1 σ ≠ none) : CoI E yX9_isTold w_X9_isTold rm_X9_isTold [.ref (E.2.2.1 t), .int x1] σ (f_X9_isTold t x1 σ) := CoI.of (lv := [(0, .ref (E.2.2.1 t)), (1, .int x1)]) hE (plainFor_of_name (by decide)) rfl (Nat.le_of_ble_eq_true rfl) rfl (fun F hC hO hR => k_X9_isTold_0 hC hO hR hn t ht1 ht2 x1 σ rfl)
def rm_X9_fillLead : Room := { frames := 0, cells := 0, slots := 0, locals := 0 }
theorem fl_X9_16 : Cond.fieldLink RX9 16 "EveryMeasure$Things" (TX9 1).2.1 (TX9 1).2.2.1 ∈ GT := gtr_4 _ (List.mem_of_getElem? (i := 9) rfl)
set_option maxHeartbeats 4000000 in
set_option maxRecDepth 100000 in
theorem k_X9_fillLead_3 {E : ET} {F : FT} {fo : Option HS} (hC : Cx E F 5 cX9_fillLead RX9 GT) (hO : Ro F rm_X9_fillLead) (hR : RV E F fo) (hf : fo ≠ none) (t : Nat) (ht1 : kd t = 9) (ht2 : AL E t) (x1 : Int32) (x2 : Int32) (x3 : Nat) (hx3a : kd x3 = 14) (hx3b : AL E x3) : ∀ (n : Nat) (x4 : Int32) (σ : HS), f_X9_fillLead_3 t x1 x2 x3 n x4 σ = fo → G E F 3 [(0, .ref (E.2.2.1 t)), (1, .int x1), (2, .int x2), (3, .ref (E.2.2.1 x3)), (4, .int x4)] [] σ := by
  intro n
  induction n with
  | zero =>
    intro x4 σ h
    exact absurd (h.symm.trans rfl) hf
  | succ n ih =>
    intro x4 σ h
    refine g_iload hC dX9_fillLead_3 4 rfl ?_
    refine g_iconst (v := 4) hC dX9_fillLead_5 (by decide) ?_
    refine g_icmp_ge (tgt := 38) hC dX9_fillLead_6 (by decide) h (fun c6 h => ?_) (fun c6 h => ?_)
    · exact g_vret hC hR dX9_fillLead_38 h
    · refine g_aload_n hC dX9_fillLead_9 rfl 3 rfl ?_
      refine g_iload hC dX9_fillLead_10 4 rfl ?_
      refine g_aload_n hC dX9_fillLead_12 rfl 0 rfl ?_
      refine g_getR (cj := 18) (k := 1) hC cr9 ui_9 ht1 ht2 (by decide) fl_X9_16 rfl rfl dX9_fillLead_13 h hf (fun a1 ea1 ka1 na1 h => ?_)
      refine g_iload_n hC dX9_fillLead_16 rfl 1 rfl ?_
      refine g_aaldI (cj := 14) hC ka1 na1 dX9_fillLead_17 h hf (fun a2 ea2 ka2 na2 h => ?_)
      refine g_iload hC dX9_fillLead_18 4 rfl ?_
      refine g_iald hC ka2 na2 dX9_fillLead_20 h hf (fun h => ?_)
      refine g_aload_n hC dX9_fillLead_21 rfl 0 rfl ?_
      refine g_getR (cj := 18) (k := 1) hC cr9 ui_9 ht1 ht2 (by decide) fl_X9_16 rfl rfl dX9_fillLead_22 h hf (fun a3 ea3 ka3 na3 h => ?_)
      refine g_iload_n hC dX9_fillLead_25 rfl 2 rfl ?_
      refine g_aaldI (cj := 14) hC ka3 na3 dX9_fillLead_26 h hf (fun a4 ea4 ka4 na4 h => ?_)
      refine g_iload hC dX9_fillLead_27 4 rfl ?_
      refine g_iald hC ka4 na4 dX9_fillLead_29 h hf (fun h => ?_)
      refine g_isub hC dX9_fillLead_30 ?_
      refine g_iast hC hx3a hx3b dX9_fillLead_31 h hf (fun h => ?_)
      refine g_iinc (v := x4 + 1) (lv' := [(4, .int (x4 + 1)), (0, .ref (E.2.2.1 t)), (1, .int x1), (2, .int x2), (3, .ref (E.2.2.1 x3))]) hC dX9_fillLead_32 4 rfl rfl (by decide) rfl ?_
      refine g_goto (tgt := 3) hC dX9_fillLead_35 (by decide) ?_
      exact g_sub [1, 2, 3, 4, 0] rfl (ih (x4 + 1) (sI σ x3 x4.toNatClampNeg ((σ.1 a2 x4.toNatClampNeg) - (σ.1 a4 x4.toNatClampNeg))) h)
set_option maxHeartbeats 4000000 in
set_option maxRecDepth 100000 in
theorem k_X9_fillLead_0 {E : ET} {F : FT} {fo : Option HS} (hC : Cx E F 5 cX9_fillLead RX9 GT) (hO : Ro F rm_X9_fillLead) (hR : RV E F fo) (hf : fo ≠ none) (t : Nat) (ht1 : kd t = 9) (ht2 : AL E t) (x1 : Int32) (x2 : Int32) (x3 : Nat) (hx3a : kd x3 = 14) (hx3b : AL E x3) (σ : HS) (h : f_X9_fillLead t x1 x2 x3 σ = fo) : G E F 0 [(0, .ref (E.2.2.1 t)), (1, .int x1), (2, .int x2), (3, .ref (E.2.2.1 x3))] [] σ := by
    refine g_iconst (v := 0) hC dX9_fillLead_0 (by decide) ?_
    refine g_istore (lv' := [(4, .int 0), (0, .ref (E.2.2.1 t)), (1, .int x1), (2, .int x2), (3, .ref (E.2.2.1 x3))]) hC dX9_fillLead_1 (by decide) rfl ?_
    exact g_sub [1, 2, 3, 4, 0] rfl (k_X9_fillLead_3 hC hO hR hf t ht1 ht2 x1 x2 x3 hx3a hx3b FU 0 σ h)
theorem xk_X9_fillLead (R : Room) (h1 : 0 + 1 ≤ R.frames) (h2 : 36 ≤ R.locals) : xw R yX9_fillLead w_X9_fillLead GT cX9_fillLead 5 none rm_X9_fillLead 3 := ⟨rfl, rfl, rfl, h1, h2, ⟨by decide, by decide⟩, by decide +kernel⟩
theorem c_X9_fillLead (E : ET) (hE : EO E) (t : Nat) (ht1 : kd t = 9) (ht2 : AL E t) (x1 : Int32) (x2 : Int32) (x3 : Nat) (hx3a : kd x3 = 14) (hx3b : AL E x3) (σ : HS) (hn : f_X9_fillLead t x1 x2 x3 σ ≠ none) : CoV E yX9_fillLead w_X9_fillLead rm_X9_fillLead [.ref (E.2.2.1 t), .int x1, .int x2, .ref (E.2.2.1 x3)] σ (f_X9_fillLead t x1 x2 x3 σ) := CoV.of (lv := [(0, .ref (E.2.2.1 t)), (1, .int x1), (2, .int x2), (3, .ref (E.2.2.1 x3))]) hE (plainFor_of_name (by decide)) rfl (Nat.le_of_ble_eq_true rfl) rfl (fun F hC hO hR => k_X9_fillLead_0 hC hO hR hn t ht1 ht2 x1 x2 x3 hx3a hx3b σ rfl)
def rm_X0_fillRow : Room := { frames := 1, cells := 0, slots := 0, locals := 36 }
theorem wc_X9_isTold : Cond.code yX9_isTold cX9_isTold 2 (some .boolean) ∈ GT := gtr_12 _ (List.mem_of_getElem? (i := 8) rfl)
theorem gc_X0_43 : GoodIn GT (wsV RX0 43 RX9 yX9_isTold w_X9_isTold) := gi_V (gtr_23 _ (List.mem_of_getElem? (i := 18) rfl)) (gtr_12 _ (List.mem_of_getElem? (i := 6) rfl)) (gtr_12 _ (List.mem_of_getElem? (i := 7) rfl)) (gtr_2 _ (List.mem_of_getElem? (i := 0) rfl)) wc_X9_isTold
theorem wc_X9_fillLead : Cond.code yX9_fillLead cX9_fillLead 5 none ∈ GT := gtr_23 _ (List.mem_of_getElem? (i := 22) rfl)
theorem gc_X0_49 : GoodIn GT (wsV RX0 49 RX9 yX9_fillLead w_X9_fillLead) := gi_V (gtr_23 _ (List.mem_of_getElem? (i := 19) rfl)) (gtr_23 _ (List.mem_of_getElem? (i := 20) rfl)) (gtr_23 _ (List.mem_of_getElem? (i := 21) rfl)) (gtr_2 _ (List.mem_of_getElem? (i := 0) rfl)) wc_X9_fillLead
set_option maxHeartbeats 4000000 in
set_option maxRecDepth 100000 in
theorem k_X0_fillRow_211 {E : ET} {F : FT} {fo : Option HS} (hC : Cx E F 7 cX0_fillRow RX0 GT) (hO : Ro F rm_X0_fillRow) (hR : RV E F fo) (hf : fo ≠ none) (σ : HS) (h : f_X0_fillRow_211 σ = fo) : G E F 211 [] [] σ := by
    exact g_vret hC hR dX0_fillRow_211 h
set_option maxHeartbeats 4000000 in
set_option maxRecDepth 100000 in
theorem k_X0_fillRow_68 {E : ET} {F : FT} {fo : Option HS} (hC : Cx E F 7 cX0_fillRow RX0 GT) (hO : Ro F rm_X0_fillRow) (hR : RV E F fo) (hf : fo ≠ none) (t : Nat) (ht1 : kd t = 0) (ht2 : AL E t) (x1 : Int32) (x2 : Nat) (hx2a : kd x2 = 14) (hx2b : AL E x2) (x3 : Nat) (hx3a : kd x3 = 9) (hx3b : AL E x3) (x4 : Int32) (x5 : Int32) (x6 : Int32) (s0 : Int32) (s1 : Int32) (s2 : Nat) (hs2a : kd s2 = 14) (hs2b : AL E s2) (r46 : Int32 → HS → Option HS) (h46 : ∀ (x6 : Int32) (σ : HS), r46 x6 σ = fo → G E F 46 [(0, .ref (E.2.2.1 t)), (1, .int x1), (2, .ref (E.2.2.1 x2)), (3, .ref (E.2.2.1 x3)), (4, .int x4), (5, .int x5), (6, .int x6)] [] σ) (σ : HS) (h : f_X0_fillRow_68 r46 t x1 x2 x3 x4 x5 x6 s0 s1 s2 σ = fo) : G E F 68 [(0, .ref (E.2.2.1 t)), (1, .int x1), (2, .ref (E.2.2.1 x2)), (3, .ref (E.2.2.1 x3)), (4, .int x4), (5, .int x5), (6, .int x6)] [.int s0, .int s1, .ref (E.2.2.1 s2)] σ := by
    refine g_iast hC hs2a hs2b dX0_fillRow_68 h hf (fun h => ?_)
    refine g_iinc (v := x6 + 1) (lv' := [(6, .int (x6 + 1)), (0, .ref (E.2.2.1 t)), (1, .int x1), (2, .ref (E.2.2.1 x2)), (3, .ref (E.2.2.1 x3)), (4, .int x4), (5, .int x5)]) hC dX0_fillRow_69 6 rfl rfl (by decide) rfl ?_
    refine g_goto (tgt := 46) hC dX0_fillRow_72 (by decide) ?_
    exact g_sub [1, 2, 3, 4, 5, 6, 0] rfl (h46 (x6 + 1) (sI σ s2 s1.toNatClampNeg s0) h)
set_option maxHeartbeats 4000000 in
set_option maxRecDepth 100000 in
theorem k_X0_fillRow_46 {E : ET} {F : FT} {fo : Option HS} (hC : Cx E F 7 cX0_fillRow RX0 GT) (hO : Ro F rm_X0_fillRow) (hR : RV E F fo) (hf : fo ≠ none) (t : Nat) (ht1 : kd t = 0) (ht2 : AL E t) (x1 : Int32) (x2 : Nat) (hx2a : kd x2 = 14) (hx2b : AL E x2) (x3 : Nat) (hx3a : kd x3 = 9) (hx3b : AL E x3) (x4 : Int32) (x5 : Int32) : ∀ (n : Nat) (x6 : Int32) (σ : HS), f_X0_fillRow_46 t x1 x2 x3 x4 x5 n x6 σ = fo → G E F 46 [(0, .ref (E.2.2.1 t)), (1, .int x1), (2, .ref (E.2.2.1 x2)), (3, .ref (E.2.2.1 x3)), (4, .int x4), (5, .int x5), (6, .int x6)] [] σ := by
  intro n
  induction n with
  | zero =>
    intro x6 σ h
    exact absurd (h.symm.trans rfl) hf
  | succ n ih =>
    intro x6 σ h
    refine g_iload hC dX0_fillRow_46 6 rfl ?_
    refine g_iconst (v := 4) hC dX0_fillRow_48 (by decide) ?_
    refine g_icmp_ge (tgt := 75) hC dX0_fillRow_49 (by decide) h (fun c49 h => ?_) (fun c49 h => ?_)
    · refine g_aload_n hC dX0_fillRow_75 rfl 0 rfl ?_
      refine g_getR (cj := 14) (k := 4) hC cr0 ui_0 ht1 ht2 (by decide) fl_X0_24 rfl rfl dX0_fillRow_76 h hf (fun a1 ea1 ka1 na1 h => ?_)
      refine g_iload_n hC dX0_fillRow_79 rfl 1 rfl ?_
      refine g_iald hC ka1 na1 dX0_fillRow_80 h hf (fun h => ?_)
      refine g_iconst (v := 1) hC dX0_fillRow_81 (by decide) ?_
      refine g_icmp_ne (tgt := 101) hC dX0_fillRow_82 (by decide) h (fun c82 h => ?_) (fun c82 h => ?_)
      · refine g_aload_n hC dX0_fillRow_101 rfl 0 rfl ?_
        refine g_getR (cj := 14) (k := 4) hC cr0 ui_0 ht1 ht2 (by decide) fl_X0_24 rfl rfl dX0_fillRow_102 h hf (fun a2 ea2 ka2 na2 h => ?_)
        refine g_iload_n hC dX0_fillRow_105 rfl 1 rfl ?_
        refine g_iald hC ka2 na2 dX0_fillRow_106 h hf (fun h => ?_)
        refine g_iconst (v := 2) hC dX0_fillRow_107 (by decide) ?_
        refine g_icmp_ne (tgt := 127) hC dX0_fillRow_108 (by decide) h (fun c108 h => ?_) (fun c108 h => ?_)
        · refine g_aload_n hC dX0_fillRow_127 rfl 0 rfl ?_
          refine g_getR (cj := 14) (k := 4) hC cr0 ui_0 ht1 ht2 (by decide) fl_X0_24 rfl rfl dX0_fillRow_128 h hf (fun a3 ea3 ka3 na3 h => ?_)
          refine g_iload_n hC dX0_fillRow_131 rfl 1 rfl ?_
          refine g_iald hC ka3 na3 dX0_fillRow_132 h hf (fun h => ?_)
          refine g_if_ne (tgt := 168) hC dX0_fillRow_133 (by decide) h (fun c133 h => ?_) (fun c133 h => ?_)
          · refine g_aload_n hC dX0_fillRow_168 rfl 3 rfl ?_
            refine g_aload_n hC dX0_fillRow_169 rfl 0 rfl ?_
            refine g_getR (cj := 14) (k := 5) hC cr0 ui_0 ht1 ht2 (by decide) fl_X0_27 rfl rfl dX0_fillRow_170 h hf (fun a4 ea4 ka4 na4 h => ?_)
            refine g_iload_n hC dX0_fillRow_173 rfl 1 rfl ?_
            refine g_iald hC ka4 na4 dX0_fillRow_174 h hf (fun h => ?_)
            obtain ⟨q5, hq5, h⟩ := bd_of h hf
            refine g_cVI (As := [.int (σ.1 a4 x1.toNatClampNeg)]) hC hO (c_X9_isTold _ hC.2.2.2.2.2.2.1 x3 hx3a hx3b (σ.1 a4 x1.toNatClampNeg) σ (nn_of hq5)) gc_X0_43 (xk_X9_isTold _ (Nat.le_of_ble_eq_true rfl) (Nat.le_of_ble_eq_true rfl)) cr9 hx3a hx3b rfl (Nat.le_of_ble_eq_true rfl) dX0_fillRow_175 hq5 ?_
            refine g_if_eq (tgt := 211) hC dX0_fillRow_178 (by decide) h (fun c178 h => ?_) (fun c178 h => ?_)
            · exact g_sub [] rfl (k_X0_fillRow_211 hC hO hR hf q5.2 h)
            · refine g_aload_n hC dX0_fillRow_181 rfl 3 rfl ?_
              refine g_aload_n hC dX0_fillRow_182 rfl 0 rfl ?_
              refine g_getR (cj := 14) (k := 6) hC cr0 ui_0 ht1 ht2 (by decide) fl_X0_30 rfl rfl dX0_fillRow_183 h hf (fun a6 ea6 ka6 na6 h => ?_)
              refine g_iload_n hC dX0_fillRow_186 rfl 1 rfl ?_
              refine g_iald hC ka6 na6 dX0_fillRow_187 h hf (fun h => ?_)
              obtain ⟨q7, hq7, h⟩ := bd_of h hf
              refine g_cVI (As := [.int (q5.2.1 a6 x1.toNatClampNeg)]) hC hO (c_X9_isTold _ hC.2.2.2.2.2.2.1 x3 hx3a hx3b (q5.2.1 a6 x1.toNatClampNeg) q5.2 (nn_of hq7)) gc_X0_43 (xk_X9_isTold _ (Nat.le_of_ble_eq_true rfl) (Nat.le_of_ble_eq_true rfl)) cr9 hx3a hx3b rfl (Nat.le_of_ble_eq_true rfl) dX0_fillRow_188 hq7 ?_
              refine g_if_eq (tgt := 211) hC dX0_fillRow_191 (by decide) h (fun c191 h => ?_) (fun c191 h => ?_)
              · exact g_sub [] rfl (k_X0_fillRow_211 hC hO hR hf q7.2 h)
              · refine g_aload_n hC dX0_fillRow_194 rfl 3 rfl ?_
                refine g_aload_n hC dX0_fillRow_195 rfl 0 rfl ?_
                refine g_getR (cj := 14) (k := 5) hC cr0 ui_0 ht1 ht2 (by decide) fl_X0_27 rfl rfl dX0_fillRow_196 h hf (fun a8 ea8 ka8 na8 h => ?_)
                refine g_iload_n hC dX0_fillRow_199 rfl 1 rfl ?_
                refine g_iald hC ka8 na8 dX0_fillRow_200 h hf (fun h => ?_)
                refine g_aload_n hC dX0_fillRow_201 rfl 0 rfl ?_
                refine g_getR (cj := 14) (k := 6) hC cr0 ui_0 ht1 ht2 (by decide) fl_X0_30 rfl rfl dX0_fillRow_202 h hf (fun a9 ea9 ka9 na9 h => ?_)
                refine g_iload_n hC dX0_fillRow_205 rfl 1 rfl ?_
                refine g_iald hC ka9 na9 dX0_fillRow_206 h hf (fun h => ?_)
                refine g_aload_n hC dX0_fillRow_207 rfl 2 rfl ?_
                obtain ⟨q10, hq10, h⟩ := bd_of h hf
                refine g_cVV (As := [.int (q7.2.1 a8 x1.toNatClampNeg), .int (q7.2.1 a9 x1.toNatClampNeg), .ref (E.2.2.1 x2)]) hC hO (c_X9_fillLead _ hC.2.2.2.2.2.2.1 x3 hx3a hx3b (q7.2.1 a8 x1.toNatClampNeg) (q7.2.1 a9 x1.toNatClampNeg) x2 hx2a hx2b q7.2 (nn_of hq10)) gc_X0_49 (xk_X9_fillLead _ (Nat.le_of_ble_eq_true rfl) (Nat.le_of_ble_eq_true rfl)) cr9 hx3a hx3b rfl (Nat.le_of_ble_eq_true rfl) dX0_fillRow_208 hq10 ?_
                exact g_sub [] rfl (k_X0_fillRow_211 hC hO hR hf q10 h)
          · refine g_aload_n hC dX0_fillRow_136 rfl 2 rfl ?_
            refine g_aload_n hC dX0_fillRow_137 rfl 0 rfl ?_
            refine g_getR (cj := 14) (k := 5) hC cr0 ui_0 ht1 ht2 (by decide) fl_X0_27 rfl rfl dX0_fillRow_138 h hf (fun a11 ea11 ka11 na11 h => ?_)
            refine g_iload_n hC dX0_fillRow_141 rfl 1 rfl ?_
            refine g_iald hC ka11 na11 dX0_fillRow_142 h hf (fun h => ?_)
            refine g_aload_n hC dX0_fillRow_143 rfl 0 rfl ?_
            refine g_getR (cj := 14) (k := 7) hC cr0 ui_0 ht1 ht2 (by decide) fl_X0_33 rfl rfl dX0_fillRow_144 h hf (fun a12 ea12 ka12 na12 h => ?_)
            refine g_iload_n hC dX0_fillRow_147 rfl 1 rfl ?_
            refine g_iald hC ka12 na12 dX0_fillRow_148 h hf (fun h => ?_)
            refine g_iast hC hx2a hx2b dX0_fillRow_149 h hf (fun h => ?_)
            refine g_aload_n hC dX0_fillRow_150 rfl 2 rfl ?_
            refine g_aload_n hC dX0_fillRow_151 rfl 0 rfl ?_
            refine g_getR (cj := 14) (k := 6) hC cr0 ui_0 ht1 ht2 (by decide) fl_X0_30 rfl rfl dX0_fillRow_152 h hf (fun a13 ea13 ka13 na13 h => ?_)
            refine g_iload_n hC dX0_fillRow_155 rfl 1 rfl ?_
            refine g_iald hC ka13 na13 dX0_fillRow_156 h hf (fun h => ?_)
            refine g_aload_n hC dX0_fillRow_157 rfl 0 rfl ?_
            refine g_getR (cj := 14) (k := 8) hC cr0 ui_0 ht1 ht2 (by decide) fl_X0_36 rfl rfl dX0_fillRow_158 h hf (fun a14 ea14 ka14 na14 h => ?_)
            refine g_iload_n hC dX0_fillRow_161 rfl 1 rfl ?_
            refine g_iald hC ka14 na14 dX0_fillRow_162 h hf (fun h => ?_)
            refine g_ineg hC dX0_fillRow_163 ?_
            refine g_iast hC hx2a hx2b dX0_fillRow_164 h hf (fun h => ?_)
            refine g_goto (tgt := 211) hC dX0_fillRow_165 (by decide) ?_
            exact g_sub [] rfl (k_X0_fillRow_211 hC hO hR hf (sI (sI σ x2 (σ.1 a11 x1.toNatClampNeg).toNatClampNeg (σ.1 a12 x1.toNatClampNeg)) x2 ((sI σ x2 (σ.1 a11 x1.toNatClampNeg).toNatClampNeg (σ.1 a12 x1.toNatClampNeg)).1 a13 x1.toNatClampNeg).toNatClampNeg (-((sI σ x2 (σ.1 a11 x1.toNatClampNeg).toNatClampNeg (σ.1 a12 x1.toNatClampNeg)).1 a14 x1.toNatClampNeg))) h)
        · refine g_aload_n hC dX0_fillRow_111 rfl 2 rfl ?_
          refine g_aload_n hC dX0_fillRow_112 rfl 0 rfl ?_
          refine g_getR (cj := 14) (k := 5) hC cr0 ui_0 ht1 ht2 (by decide) fl_X0_27 rfl rfl dX0_fillRow_113 h hf (fun a15 ea15 ka15 na15 h => ?_)
          refine g_iload_n hC dX0_fillRow_116 rfl 1 rfl ?_
          refine g_iald hC ka15 na15 dX0_fillRow_117 h hf (fun h => ?_)
          refine g_dup2_11 hC dX0_fillRow_118 rfl rfl ?_
          refine g_iald hC hx2a hx2b dX0_fillRow_119 h hf (fun h => ?_)
          refine g_bipush (v := 100) hC dX0_fillRow_120 (by decide) ?_
          refine g_isub hC dX0_fillRow_122 ?_
          refine g_iast hC hx2a hx2b dX0_fillRow_123 h hf (fun h => ?_)
          refine g_goto (tgt := 211) hC dX0_fillRow_124 (by decide) ?_
          exact g_sub [] rfl (k_X0_fillRow_211 hC hO hR hf (sI σ x2 (σ.1 a15 x1.toNatClampNeg).toNatClampNeg ((σ.1 x2 (σ.1 a15 x1.toNatClampNeg).toNatClampNeg) - 100)) h)
      · refine g_aload_n hC dX0_fillRow_85 rfl 2 rfl ?_
        refine g_aload_n hC dX0_fillRow_86 rfl 0 rfl ?_
        refine g_getR (cj := 14) (k := 5) hC cr0 ui_0 ht1 ht2 (by decide) fl_X0_27 rfl rfl dX0_fillRow_87 h hf (fun a16 ea16 ka16 na16 h => ?_)
        refine g_iload_n hC dX0_fillRow_90 rfl 1 rfl ?_
        refine g_iald hC ka16 na16 dX0_fillRow_91 h hf (fun h => ?_)
        refine g_dup2_11 hC dX0_fillRow_92 rfl rfl ?_
        refine g_iald hC hx2a hx2b dX0_fillRow_93 h hf (fun h => ?_)
        refine g_bipush (v := 100) hC dX0_fillRow_94 (by decide) ?_
        refine g_iadd hC dX0_fillRow_96 ?_
        refine g_iast hC hx2a hx2b dX0_fillRow_97 h hf (fun h => ?_)
        refine g_goto (tgt := 211) hC dX0_fillRow_98 (by decide) ?_
        exact g_sub [] rfl (k_X0_fillRow_211 hC hO hR hf (sI σ x2 (σ.1 a16 x1.toNatClampNeg).toNatClampNeg ((σ.1 x2 (σ.1 a16 x1.toNatClampNeg).toNatClampNeg) + 100)) h)
    · refine g_aload_n hC dX0_fillRow_52 rfl 2 rfl ?_
      refine g_iload hC dX0_fillRow_53 6 rfl ?_
      refine g_iload hC dX0_fillRow_55 6 rfl ?_
      refine g_iload hC dX0_fillRow_57 4 rfl ?_
      refine g_icmp_ge (tgt := 67) hC dX0_fillRow_59 (by decide) h (fun c59 h => ?_) (fun c59 h => ?_)
      · refine g_iconst (v := 0) hC dX0_fillRow_67 (by decide) ?_
        exact g_sub [0, 1, 2, 3, 4, 5, 6] rfl (k_X0_fillRow_68 hC hO hR hf t ht1 ht2 x1 x2 hx2a hx2b x3 hx3a hx3b x4 x5 x6 0 x6 x2 hx2a hx2b (f_X0_fillRow_46 t x1 x2 x3 x4 x5 n) ih σ h)
      · refine g_iload hC dX0_fillRow_62 5 rfl ?_
        refine g_goto (tgt := 68) hC dX0_fillRow_64 (by decide) ?_
        exact g_sub [0, 1, 2, 3, 4, 5, 6] rfl (k_X0_fillRow_68 hC hO hR hf t ht1 ht2 x1 x2 hx2a hx2b x3 hx3a hx3b x4 x5 x6 x5 x6 x2 hx2a hx2b (f_X0_fillRow_46 t x1 x2 x3 x4 x5 n) ih σ h)
set_option maxHeartbeats 4000000 in
set_option maxRecDepth 100000 in
theorem k_X0_fillRow_43 {E : ET} {F : FT} {fo : Option HS} (hC : Cx E F 7 cX0_fillRow RX0 GT) (hO : Ro F rm_X0_fillRow) (hR : RV E F fo) (hf : fo ≠ none) (t : Nat) (ht1 : kd t = 0) (ht2 : AL E t) (x1 : Int32) (x2 : Nat) (hx2a : kd x2 = 14) (hx2b : AL E x2) (x3 : Nat) (hx3a : kd x3 = 9) (hx3b : AL E x3) (x4 : Int32) (x5 : Int32) (σ : HS) (h : f_X0_fillRow_43 t x1 x2 x3 x4 x5 σ = fo) : G E F 43 [(0, .ref (E.2.2.1 t)), (1, .int x1), (2, .ref (E.2.2.1 x2)), (3, .ref (E.2.2.1 x3)), (4, .int x4), (5, .int x5)] [] σ := by
    refine g_iconst (v := 0) hC dX0_fillRow_43 (by decide) ?_
    refine g_istore (lv' := [(6, .int 0), (0, .ref (E.2.2.1 t)), (1, .int x1), (2, .ref (E.2.2.1 x2)), (3, .ref (E.2.2.1 x3)), (4, .int x4), (5, .int x5)]) hC dX0_fillRow_44 (by decide) rfl ?_
    exact g_sub [1, 2, 3, 4, 5, 6, 0] rfl (k_X0_fillRow_46 hC hO hR hf t ht1 ht2 x1 x2 hx2a hx2b x3 hx3a hx3b x4 x5 FU 0 σ h)
set_option maxHeartbeats 4000000 in
set_option maxRecDepth 100000 in
theorem k_X0_fillRow_0 {E : ET} {F : FT} {fo : Option HS} (hC : Cx E F 7 cX0_fillRow RX0 GT) (hO : Ro F rm_X0_fillRow) (hR : RV E F fo) (hf : fo ≠ none) (t : Nat) (ht1 : kd t = 0) (ht2 : AL E t) (x1 : Int32) (x2 : Nat) (hx2a : kd x2 = 14) (hx2b : AL E x2) (x3 : Nat) (hx3a : kd x3 = 9) (hx3b : AL E x3) (x4 : Int32) (σ : HS) (h : f_X0_fillRow t x1 x2 x3 x4 σ = fo) : G E F 0 [(0, .ref (E.2.2.1 t)), (1, .int x1), (2, .ref (E.2.2.1 x2)), (3, .ref (E.2.2.1 x3)), (4, .int x4)] [] σ := by
    refine g_iconst (v := 0) hC dX0_fillRow_0 (by decide) ?_
    refine g_istore (lv' := [(5, .int 0), (0, .ref (E.2.2.1 t)), (1, .int x1), (2, .ref (E.2.2.1 x2)), (3, .ref (E.2.2.1 x3)), (4, .int x4)]) hC dX0_fillRow_1 (by decide) rfl ?_
    refine g_aload_n hC dX0_fillRow_3 rfl 1 rfl ?_
    refine g_getR (cj := 14) (k := 4) hC cr0 ui_0 ht1 ht2 (by decide) fl_X0_24 rfl rfl dX0_fillRow_4 h hf (fun a1 ea1 ka1 na1 h => ?_)
    refine g_iload_n hC dX0_fillRow_7 rfl 2 rfl ?_
    refine g_iald hC ka1 na1 dX0_fillRow_8 h hf (fun h => ?_)
    refine g_iconst (v := 1) hC dX0_fillRow_9 (by decide) ?_
    refine g_icmp_ne (tgt := 25) hC dX0_fillRow_10 (by decide) h (fun c10 h => ?_) (fun c10 h => ?_)
    · refine g_aload_n hC dX0_fillRow_25 rfl 1 rfl ?_
      refine g_getR (cj := 14) (k := 4) hC cr0 ui_0 ht1 ht2 (by decide) fl_X0_24 rfl rfl dX0_fillRow_26 h hf (fun a2 ea2 ka2 na2 h => ?_)
      refine g_iload_n hC dX0_fillRow_29 rfl 2 rfl ?_
      refine g_iald hC ka2 na2 dX0_fillRow_30 h hf (fun h => ?_)
      refine g_iconst (v := 2) hC dX0_fillRow_31 (by decide) ?_
      refine g_icmp_ne (tgt := 43) hC dX0_fillRow_32 (by decide) h (fun c32 h => ?_) (fun c32 h => ?_)
      · exact g_sub [1, 2, 3, 4, 5, 0] rfl (k_X0_fillRow_43 hC hO hR hf t ht1 ht2 x1 x2 hx2a hx2b x3 hx3a hx3b x4 0 σ h)
      · refine g_aload_n hC dX0_fillRow_35 rfl 1 rfl ?_
        refine g_getR (cj := 14) (k := 7) hC cr0 ui_0 ht1 ht2 (by decide) fl_X0_33 rfl rfl dX0_fillRow_36 h hf (fun a3 ea3 ka3 na3 h => ?_)
        refine g_iload_n hC dX0_fillRow_39 rfl 2 rfl ?_
        refine g_iald hC ka3 na3 dX0_fillRow_40 h hf (fun h => ?_)
        refine g_istore (lv' := [(5, .int (σ.1 a3 x1.toNatClampNeg)), (0, .ref (E.2.2.1 t)), (1, .int x1), (2, .ref (E.2.2.1 x2)), (3, .ref (E.2.2.1 x3)), (4, .int x4)]) hC dX0_fillRow_41 (by decide) rfl ?_
        exact g_sub [1, 2, 3, 4, 5, 0] rfl (k_X0_fillRow_43 hC hO hR hf t ht1 ht2 x1 x2 hx2a hx2b x3 hx3a hx3b x4 (σ.1 a3 x1.toNatClampNeg) σ h)
    · refine g_aload_n hC dX0_fillRow_13 rfl 1 rfl ?_
      refine g_getR (cj := 14) (k := 7) hC cr0 ui_0 ht1 ht2 (by decide) fl_X0_33 rfl rfl dX0_fillRow_14 h hf (fun a4 ea4 ka4 na4 h => ?_)
      refine g_iload_n hC dX0_fillRow_17 rfl 2 rfl ?_
      refine g_iald hC ka4 na4 dX0_fillRow_18 h hf (fun h => ?_)
      refine g_ineg hC dX0_fillRow_19 ?_
      refine g_istore (lv' := [(5, .int (-(σ.1 a4 x1.toNatClampNeg))), (0, .ref (E.2.2.1 t)), (1, .int x1), (2, .ref (E.2.2.1 x2)), (3, .ref (E.2.2.1 x3)), (4, .int x4)]) hC dX0_fillRow_20 (by decide) rfl ?_
      refine g_goto (tgt := 43) hC dX0_fillRow_22 (by decide) ?_
      exact g_sub [1, 2, 3, 4, 5, 0] rfl (k_X0_fillRow_43 hC hO hR hf t ht1 ht2 x1 x2 hx2a hx2b x3 hx3a hx3b x4 (-(σ.1 a4 x1.toNatClampNeg)) σ h)
theorem xk_X0_fillRow (R : Room) (h1 : 1 + 1 ≤ R.frames) (h2 : 74 ≤ R.locals) : xw R yX0_fillRow w_X0_fillRow GT cX0_fillRow 7 none rm_X0_fillRow 4 := ⟨rfl, rfl, rfl, h1, h2, ⟨by decide, by decide⟩, by decide +kernel⟩
theorem c_X0_fillRow (E : ET) (hE : EO E) (t : Nat) (ht1 : kd t = 0) (ht2 : AL E t) (x1 : Int32) (x2 : Nat) (hx2a : kd x2 = 14) (hx2b : AL E x2) (x3 : Nat) (hx3a : kd x3 = 9) (hx3b : AL E x3) (x4 : Int32) (σ : HS) (hn : f_X0_fillRow t x1 x2 x3 x4 σ ≠ none) : CoV E yX0_fillRow w_X0_fillRow rm_X0_fillRow [.ref (E.2.2.1 t), .int x1, .ref (E.2.2.1 x2), .ref (E.2.2.1 x3), .int x4] σ (f_X0_fillRow t x1 x2 x3 x4 σ) := CoV.of (lv := [(0, .ref (E.2.2.1 t)), (1, .int x1), (2, .ref (E.2.2.1 x2)), (3, .ref (E.2.2.1 x3)), (4, .int x4)]) hE (plainFor_of_name (by decide)) rfl (Nat.le_of_ble_eq_true rfl) rfl (fun F hC hO hR => k_X0_fillRow_0 hC hO hR hn t ht1 ht2 x1 x2 hx2a hx2b x3 hx3a hx3b x4 σ rfl)
def rm_X1_becomeWhole : Room := { frames := 0, cells := 0, slots := 0, locals := 0 }
theorem fl_X1_22 : Cond.fieldLink RX1 22 "EveryMeasure$Cone" (TX1 3).2.1 (TX1 3).2.2.1 ∈ GT := gtr_5 _ (List.mem_of_getElem? (i := 8) rfl)
theorem fl_X1_26 : Cond.fieldLink RX1 26 "EveryMeasure$Cone" (TX1 4).2.1 (TX1 4).2.2.1 ∈ GT := gtr_5 _ (List.mem_of_getElem? (i := 9) rfl)
theorem fl_X1_29 : Cond.fieldLink RX1 29 "EveryMeasure$Cone" (TX1 5).2.1 (TX1 5).2.2.1 ∈ GT := gtr_5 _ (List.mem_of_getElem? (i := 10) rfl)
theorem fl_X1_15 : Cond.fieldLink RX1 15 "EveryMeasure$Cone" (TX1 1).2.1 (TX1 1).2.2.1 ∈ GT := gtr_5 _ (List.mem_of_getElem? (i := 6) rfl)
theorem fl_X1_9 : Cond.fieldLink RX1 9 "EveryMeasure$Cone" (TX1 0).2.1 (TX1 0).2.2.1 ∈ GT := gtr_5 _ (List.mem_of_getElem? (i := 5) rfl)
set_option maxHeartbeats 4000000 in
set_option maxRecDepth 100000 in
theorem k_X1_becomeWhole_51 {E : ET} {F : FT} {fo : Option HS} (hC : Cx E F 4 cX1_becomeWhole RX1 GT) (hO : Ro F rm_X1_becomeWhole) (hR : RV E F fo) (hf : fo ≠ none) (t : Nat) (ht1 : kd t = 1) (ht2 : AL E t) (x2 : Int32) (x3 : Int32) (s0 : Int64) (s1 : Int32) (s2 : Nat) (hs2a : kd s2 = 15) (hs2b : AL E s2) (r17 : Int32 → HS → Option HS) (h17 : ∀ (x2 : Int32) (σ : HS), r17 x2 σ = fo → G E F 17 [(0, .ref (E.2.2.1 t)), (2, .int x2)] [] σ) (r27 : Int32 → HS → Option HS) (h27 : ∀ (x3 : Int32) (σ : HS), r27 x3 σ = fo → G E F 27 [(0, .ref (E.2.2.1 t)), (2, .int x2), (3, .int x3)] [] σ) (σ : HS) (h : f_X1_becomeWhole_51 r17 r27 t x2 x3 s0 s1 s2 σ = fo) : G E F 51 [(0, .ref (E.2.2.1 t)), (2, .int x2), (3, .int x3)] [.long s0, .int s1, .ref (E.2.2.1 s2)] σ := by
    refine g_last hC hs2a hs2b dX1_becomeWhole_51 h hf (fun h => ?_)
    refine g_iinc (v := x3 + 1) (lv' := [(3, .int (x3 + 1)), (0, .ref (E.2.2.1 t)), (2, .int x2)]) hC dX1_becomeWhole_52 2 rfl rfl (by decide) rfl ?_
    refine g_goto (tgt := 27) hC dX1_becomeWhole_55 (by decide) ?_
    exact g_sub [1, 2, 0] rfl (h27 (x3 + 1) (sJ σ s2 s1.toNatClampNeg s0) h)
set_option maxHeartbeats 4000000 in
set_option maxRecDepth 100000 in
theorem k_X1_becomeWhole_27 {E : ET} {F : FT} {fo : Option HS} (hC : Cx E F 4 cX1_becomeWhole RX1 GT) (hO : Ro F rm_X1_becomeWhole) (hR : RV E F fo) (hf : fo ≠ none) (t : Nat) (ht1 : kd t = 1) (ht2 : AL E t) (x2 : Int32) (r17 : Int32 → HS → Option HS) (h17 : ∀ (x2 : Int32) (σ : HS), r17 x2 σ = fo → G E F 17 [(0, .ref (E.2.2.1 t)), (2, .int x2)] [] σ) : ∀ (n : Nat) (x3 : Int32) (σ : HS), f_X1_becomeWhole_27 t x2 r17 n x3 σ = fo → G E F 27 [(0, .ref (E.2.2.1 t)), (2, .int x2), (3, .int x3)] [] σ := by
  intro n
  induction n with
  | zero =>
    intro x3 σ h
    exact absurd (h.symm.trans rfl) hf
  | succ n ih =>
    intro x3 σ h
    refine g_iload_n hC dX1_becomeWhole_27 rfl 2 rfl ?_
    refine g_iconst (v := 4) hC dX1_becomeWhole_28 (by decide) ?_
    refine g_icmp_ge (tgt := 58) hC dX1_becomeWhole_29 (by decide) h (fun c29 h => ?_) (fun c29 h => ?_)
    · refine g_aload_n hC dX1_becomeWhole_58 rfl 0 rfl ?_
      refine g_getR (cj := 14) (k := 1) hC cr1 ui_1 ht1 ht2 (by decide) fl_X1_15 rfl rfl dX1_becomeWhole_59 h hf (fun a1 ea1 ka1 na1 h => ?_)
      refine g_iload_n hC dX1_becomeWhole_62 rfl 1 rfl ?_
      refine g_iconst (v := 1) hC dX1_becomeWhole_63 (by decide) ?_
      refine g_aload_n hC dX1_becomeWhole_64 rfl 0 rfl ?_
      refine g_getI (k := 4) hC cr1 ui_1 ht1 ht2 (by decide) fl_X1_26 rfl rfl dX1_becomeWhole_65 ?_
      refine g_ishl hC dX1_becomeWhole_68 ?_
      refine g_iconst (v := 1) hC dX1_becomeWhole_69 (by decide) ?_
      refine g_isub hC dX1_becomeWhole_70 ?_
      refine g_iconst (v := 1) hC dX1_becomeWhole_71 (by decide) ?_
      refine g_iload_n hC dX1_becomeWhole_72 rfl 1 rfl ?_
      refine g_ishl hC dX1_becomeWhole_73 ?_
      refine g_iconst (v := (-1)) hC dX1_becomeWhole_74 (by decide) ?_
      refine g_ixor hC dX1_becomeWhole_75 ?_
      refine g_iand hC dX1_becomeWhole_76 ?_
      refine g_iast hC ka1 na1 dX1_becomeWhole_77 h hf (fun h => ?_)
      refine g_iinc (v := x2 + 1) (lv' := [(2, .int (x2 + 1)), (0, .ref (E.2.2.1 t)), (3, .int x3)]) hC dX1_becomeWhole_78 1 rfl rfl (by decide) rfl ?_
      refine g_goto (tgt := 17) hC dX1_becomeWhole_81 (by decide) ?_
      exact g_sub [1, 0] rfl (h17 (x2 + 1) (sI σ a1 x2.toNatClampNeg ((((1 : Int32) <<< ((σ.1 t 4) &&& 31)) - 1) &&& (((1 : Int32) <<< (x2 &&& 31)) ^^^ (-1)))) h)
    · refine g_aload_n hC dX1_becomeWhole_32 rfl 0 rfl ?_
      refine g_getR (cj := 15) (k := 0) hC cr1 ui_1 ht1 ht2 (by decide) fl_X1_9 rfl rfl dX1_becomeWhole_33 h hf (fun a2 ea2 ka2 na2 h => ?_)
      refine g_iload_n hC dX1_becomeWhole_36 rfl 1 rfl ?_
      refine g_iconst (v := 4) hC dX1_becomeWhole_37 (by decide) ?_
      refine g_imul hC dX1_becomeWhole_38 ?_
      refine g_iload_n hC dX1_becomeWhole_39 rfl 2 rfl ?_
      refine g_iadd hC dX1_becomeWhole_40 ?_
      refine g_iload_n hC dX1_becomeWhole_41 rfl 2 rfl ?_
      refine g_iload_n hC dX1_becomeWhole_42 rfl 1 rfl ?_
      refine g_icmp_ne (tgt := 50) hC dX1_becomeWhole_43 (by decide) h (fun c43 h => ?_) (fun c43 h => ?_)
      · refine g_lconst (v := 0) hC dX1_becomeWhole_50 (by decide) ?_
        exact g_sub [0, 1, 2] rfl (k_X1_becomeWhole_51 hC hO hR hf t ht1 ht2 x2 x3 0 ((x2 * 4) + x3) a2 ka2 na2 r17 h17 (f_X1_becomeWhole_27 t x2 r17 n) ih σ h)
      · refine g_lconst (v := 1) hC dX1_becomeWhole_46 (by decide) ?_
        refine g_goto (tgt := 51) hC dX1_becomeWhole_47 (by decide) ?_
        exact g_sub [0, 1, 2] rfl (k_X1_becomeWhole_51 hC hO hR hf t ht1 ht2 x2 x3 1 ((x2 * 4) + x3) a2 ka2 na2 r17 h17 (f_X1_becomeWhole_27 t x2 r17 n) ih σ h)
set_option maxHeartbeats 4000000 in
set_option maxRecDepth 100000 in
theorem k_X1_becomeWhole_17 {E : ET} {F : FT} {fo : Option HS} (hC : Cx E F 4 cX1_becomeWhole RX1 GT) (hO : Ro F rm_X1_becomeWhole) (hR : RV E F fo) (hf : fo ≠ none) (t : Nat) (ht1 : kd t = 1) (ht2 : AL E t) : ∀ (n : Nat) (x2 : Int32) (σ : HS), f_X1_becomeWhole_17 t n x2 σ = fo → G E F 17 [(0, .ref (E.2.2.1 t)), (2, .int x2)] [] σ := by
  intro n
  induction n with
  | zero =>
    intro x2 σ h
    exact absurd (h.symm.trans rfl) hf
  | succ n ih =>
    intro x2 σ h
    refine g_iload_n hC dX1_becomeWhole_17 rfl 1 rfl ?_
    refine g_aload_n hC dX1_becomeWhole_18 rfl 0 rfl ?_
    refine g_getI (k := 5) hC cr1 ui_1 ht1 ht2 (by decide) fl_X1_29 rfl rfl dX1_becomeWhole_19 ?_
    refine g_icmp_ge (tgt := 84) hC dX1_becomeWhole_22 (by decide) h (fun c22 h => ?_) (fun c22 h => ?_)
    · exact g_vret hC hR dX1_becomeWhole_84 h
    · refine g_iconst (v := 0) hC dX1_becomeWhole_25 (by decide) ?_
      refine g_istore_n (lv' := [(3, .int 0), (0, .ref (E.2.2.1 t)), (2, .int x2)]) hC dX1_becomeWhole_26 rfl (by decide) rfl ?_
      exact g_sub [1, 2, 0] rfl (k_X1_becomeWhole_27 hC hO hR hf t ht1 ht2 x2 (f_X1_becomeWhole_17 t n) ih FU 0 σ h)
set_option maxHeartbeats 4000000 in
set_option maxRecDepth 100000 in
theorem k_X1_becomeWhole_0 {E : ET} {F : FT} {fo : Option HS} (hC : Cx E F 4 cX1_becomeWhole RX1 GT) (hO : Ro F rm_X1_becomeWhole) (hR : RV E F fo) (hf : fo ≠ none) (t : Nat) (ht1 : kd t = 1) (ht2 : AL E t) (x1 : Int32) (σ : HS) (h : f_X1_becomeWhole t x1 σ = fo) : G E F 0 [(0, .ref (E.2.2.1 t)), (1, .int x1)] [] σ := by
    refine g_aload_n hC dX1_becomeWhole_0 rfl 0 rfl ?_
    refine g_iload_n hC dX1_becomeWhole_1 rfl 1 rfl ?_
    refine g_putI (k := 3) hC cr1 ui_1 tyX1_ok nmX1 ht1 ht2 (by decide) fl_X1_22 rfl rfl rfl rfl dX1_becomeWhole_2 ?_
    refine g_aload_n hC dX1_becomeWhole_5 rfl 0 rfl ?_
    refine g_iload_n hC dX1_becomeWhole_6 rfl 1 rfl ?_
    refine g_putI (k := 4) hC cr1 ui_1 tyX1_ok nmX1 ht1 ht2 (by decide) fl_X1_26 rfl rfl rfl rfl dX1_becomeWhole_7 ?_
    refine g_aload_n hC dX1_becomeWhole_10 rfl 0 rfl ?_
    refine g_iload_n hC dX1_becomeWhole_11 rfl 1 rfl ?_
    refine g_putI (k := 5) hC cr1 ui_1 tyX1_ok nmX1 ht1 ht2 (by decide) fl_X1_29 rfl rfl rfl rfl dX1_becomeWhole_12 ?_
    refine g_iconst (v := 0) hC dX1_becomeWhole_15 (by decide) ?_
    refine g_istore_n (lv' := [(2, .int 0), (0, .ref (E.2.2.1 t)), (1, .int x1)]) hC dX1_becomeWhole_16 rfl (by decide) rfl ?_
    exact g_sub [1, 0] rfl (k_X1_becomeWhole_17 hC hO hR hf t ht1 ht2 FU 0 (sI (sI (sI σ t 3 x1) t 4 x1) t 5 x1) h)
theorem xk_X1_becomeWhole (R : Room) (h1 : 0 + 1 ≤ R.frames) (h2 : 35 ≤ R.locals) : xw R yX1_becomeWhole w_X1_becomeWhole GT cX1_becomeWhole 4 none rm_X1_becomeWhole 1 := ⟨rfl, rfl, rfl, h1, h2, ⟨by decide, by decide⟩, by decide +kernel⟩
theorem c_X1_becomeWhole (E : ET) (hE : EO E) (t : Nat) (ht1 : kd t = 1) (ht2 : AL E t) (x1 : Int32) (σ : HS) (hn : f_X1_becomeWhole t x1 σ ≠ none) : CoV E yX1_becomeWhole w_X1_becomeWhole rm_X1_becomeWhole [.ref (E.2.2.1 t), .int x1] σ (f_X1_becomeWhole t x1 σ) := CoV.of (lv := [(0, .ref (E.2.2.1 t)), (1, .int x1)]) hE (plainFor_of_name (by decide)) rfl (Nat.le_of_ble_eq_true rfl) rfl (fun F hC hO hR => k_X1_becomeWhole_0 hC hO hR hn t ht1 ht2 x1 σ rfl)
def rm_X1_weight : Room := { frames := 0, cells := 0, slots := 0, locals := 0 }
set_option maxHeartbeats 4000000 in
set_option maxRecDepth 100000 in
theorem k_X1_weight_0 {E : ET} {F : FT} {fo : Option (Int64 × HS)} (hC : Cx E F 3 cX1_weight RX1 GT) (hO : Ro F rm_X1_weight) (hR : RJ E F fo) (hf : fo ≠ none) (t : Nat) (ht1 : kd t = 1) (ht2 : AL E t) (x1 : Int32) (x2 : Int32) (σ : HS) (h : f_X1_weight t x1 x2 σ = fo) : G E F 0 [(0, .ref (E.2.2.1 t)), (1, .int x1), (2, .int x2)] [] σ := by
    refine g_aload_n hC dX1_weight_0 rfl 0 rfl ?_
    refine g_getR (cj := 15) (k := 0) hC cr1 ui_1 ht1 ht2 (by decide) fl_X1_9 rfl rfl dX1_weight_1 h hf (fun a1 ea1 ka1 na1 h => ?_)
    refine g_iload_n hC dX1_weight_4 rfl 1 rfl ?_
    refine g_iconst (v := 4) hC dX1_weight_5 (by decide) ?_
    refine g_imul hC dX1_weight_6 ?_
    refine g_iload_n hC dX1_weight_7 rfl 2 rfl ?_
    refine g_iadd hC dX1_weight_8 ?_
    refine g_lald hC ka1 na1 dX1_weight_9 h hf (fun h => ?_)
    exact g_lret hC hR dX1_weight_10 h
theorem xk_X1_weight (R : Room) (h1 : 0 + 1 ≤ R.frames) (h2 : 34 ≤ R.locals) : xw R yX1_weight w_X1_weight GT cX1_weight 3 (some .long) rm_X1_weight 2 := ⟨rfl, rfl, rfl, h1, h2, ⟨by decide, by decide⟩, by decide +kernel⟩
theorem c_X1_weight (E : ET) (hE : EO E) (t : Nat) (ht1 : kd t = 1) (ht2 : AL E t) (x1 : Int32) (x2 : Int32) (σ : HS) (hn : f_X1_weight t x1 x2 σ ≠ none) : CoJ E yX1_weight w_X1_weight rm_X1_weight [.ref (E.2.2.1 t), .int x1, .int x2] σ (f_X1_weight t x1 x2 σ) := CoJ.of (lv := [(0, .ref (E.2.2.1 t)), (1, .int x1), (2, .int x2)]) hE (plainFor_of_name (by decide)) rfl (Nat.le_of_ble_eq_true rfl) rfl (fun F hC hO hR => k_X1_weight_0 hC hO hR hn t ht1 ht2 x1 x2 σ rfl)
def rm_X1_take : Room := { frames := 1, cells := 0, slots := 0, locals := 34 }
theorem wc_X1_weight : Cond.code yX1_weight cX1_weight 3 (some .long) ∈ GT := gtr_24 _ (List.mem_of_getElem? (i := 22) rfl)
theorem gc_X1_48 : GoodIn GT (wsV RX1 48 RX1 yX1_weight w_X1_weight) := gi_V (gtr_24 _ (List.mem_of_getElem? (i := 19) rfl)) (gtr_24 _ (List.mem_of_getElem? (i := 20) rfl)) (gtr_24 _ (List.mem_of_getElem? (i := 21) rfl)) (gtr_4 _ (List.mem_of_getElem? (i := 21) rfl)) wc_X1_weight
set_option maxHeartbeats 4000000 in
set_option maxRecDepth 100000 in
theorem k_X1_take_13 {E : ET} {F : FT} {fo : Option HS} (hC : Cx E F 5 cX1_take RX1 GT) (hO : Ro F rm_X1_take) (hR : RV E F fo) (hf : fo ≠ none) (t : Nat) (ht1 : kd t = 1) (ht2 : AL E t) (x1 : Nat) (hx1a : kd x1 = 1) (hx1b : AL E x1) (x2 : Int32) (x3 : Int32) : ∀ (n : Nat) (x4 : Int32) (σ : HS), f_X1_take_13 t x1 x2 x3 n x4 σ = fo → G E F 13 [(0, .ref (E.2.2.1 t)), (1, .ref (E.2.2.1 x1)), (2, .int x2), (3, .int x3), (4, .int x4)] [] σ := by
  intro n
  induction n with
  | zero =>
    intro x4 σ h
    exact absurd (h.symm.trans rfl) hf
  | succ n ih =>
    intro x4 σ h
    refine g_iload hC dX1_take_13 4 rfl ?_
    refine g_iconst (v := 4) hC dX1_take_15 (by decide) ?_
    refine g_icmp_ge (tgt := 46) hC dX1_take_16 (by decide) h (fun c16 h => ?_) (fun c16 h => ?_)
    · refine g_aload_n hC dX1_take_46 rfl 0 rfl ?_
      refine g_getR (cj := 14) (k := 1) hC cr1 ui_1 ht1 ht2 (by decide) fl_X1_15 rfl rfl dX1_take_47 h hf (fun a1 ea1 ka1 na1 h => ?_)
      refine g_aload_n hC dX1_take_50 rfl 0 rfl ?_
      refine g_getI (k := 5) hC cr1 ui_1 ht1 ht2 (by decide) fl_X1_29 rfl rfl dX1_take_51 ?_
      refine g_aload_n hC dX1_take_54 rfl 1 rfl ?_
      refine g_getR (cj := 14) (k := 1) hC cr1 ui_1 hx1a hx1b (by decide) fl_X1_15 rfl rfl dX1_take_55 h hf (fun a2 ea2 ka2 na2 h => ?_)
      refine g_iload_n hC dX1_take_58 rfl 2 rfl ?_
      refine g_iald hC ka2 na2 dX1_take_59 h hf (fun h => ?_)
      refine g_iload_n hC dX1_take_60 rfl 3 rfl ?_
      refine g_ior hC dX1_take_61 ?_
      refine g_iast hC ka1 na1 dX1_take_62 h hf (fun h => ?_)
      refine g_aload_n hC dX1_take_63 rfl 0 rfl ?_
      refine g_dup hC dX1_take_64 rfl ?_
      refine g_getI (k := 5) hC cr1 ui_1 ht1 ht2 (by decide) fl_X1_29 rfl rfl dX1_take_65 ?_
      refine g_iconst (v := 1) hC dX1_take_68 (by decide) ?_
      refine g_iadd hC dX1_take_69 ?_
      refine g_putI (k := 5) hC cr1 ui_1 tyX1_ok nmX1 ht1 ht2 (by decide) fl_X1_29 rfl rfl rfl rfl dX1_take_70 ?_
      exact g_vret hC hR dX1_take_73 h
    · refine g_aload_n hC dX1_take_19 rfl 0 rfl ?_
      refine g_getR (cj := 15) (k := 0) hC cr1 ui_1 ht1 ht2 (by decide) fl_X1_9 rfl rfl dX1_take_20 h hf (fun a3 ea3 ka3 na3 h => ?_)
      refine g_aload_n hC dX1_take_23 rfl 0 rfl ?_
      refine g_getI (k := 5) hC cr1 ui_1 ht1 ht2 (by decide) fl_X1_29 rfl rfl dX1_take_24 ?_
      refine g_iconst (v := 4) hC dX1_take_27 (by decide) ?_
      refine g_imul hC dX1_take_28 ?_
      refine g_iload hC dX1_take_29 4 rfl ?_
      refine g_iadd hC dX1_take_31 ?_
      refine g_aload_n hC dX1_take_32 rfl 1 rfl ?_
      refine g_iload_n hC dX1_take_33 rfl 2 rfl ?_
      refine g_iload hC dX1_take_34 4 rfl ?_
      obtain ⟨q4, hq4, h⟩ := bd_of h hf
      refine g_cVJ (As := [.int x2, .int x4]) hC hO (c_X1_weight _ hC.2.2.2.2.2.2.1 x1 hx1a hx1b x2 x4 σ (nn_of hq4)) gc_X1_48 (xk_X1_weight _ (Nat.le_of_ble_eq_true rfl) (Nat.le_of_ble_eq_true rfl)) cr1 hx1a hx1b rfl (Nat.le_of_ble_eq_true rfl) dX1_take_36 hq4 ?_
      refine g_last hC ka3 na3 dX1_take_39 h hf (fun h => ?_)
      refine g_iinc (v := x4 + 1) (lv' := [(4, .int (x4 + 1)), (0, .ref (E.2.2.1 t)), (1, .ref (E.2.2.1 x1)), (2, .int x2), (3, .int x3)]) hC dX1_take_40 4 rfl rfl (by decide) rfl ?_
      refine g_goto (tgt := 13) hC dX1_take_43 (by decide) ?_
      exact g_sub [1, 2, 3, 4, 0] rfl (ih (x4 + 1) (sJ q4.2 a3 (((σ.1 t 5) * 4) + x4).toNatClampNeg q4.1) h)
set_option maxHeartbeats 4000000 in
set_option maxRecDepth 100000 in
theorem k_X1_take_0 {E : ET} {F : FT} {fo : Option HS} (hC : Cx E F 5 cX1_take RX1 GT) (hO : Ro F rm_X1_take) (hR : RV E F fo) (hf : fo ≠ none) (t : Nat) (ht1 : kd t = 1) (ht2 : AL E t) (x1 : Nat) (hx1a : kd x1 = 1) (hx1b : AL E x1) (x2 : Int32) (x3 : Int32) (σ : HS) (h : f_X1_take t x1 x2 x3 σ = fo) : G E F 0 [(0, .ref (E.2.2.1 t)), (1, .ref (E.2.2.1 x1)), (2, .int x2), (3, .int x3)] [] σ := by
    refine g_aload_n hC dX1_take_0 rfl 0 rfl ?_
    refine g_getI (k := 5) hC cr1 ui_1 ht1 ht2 (by decide) fl_X1_29 rfl rfl dX1_take_1 ?_
    refine g_bipush (v := 44) hC dX1_take_4 (by decide) ?_
    refine g_icmp_lt (tgt := 10) hC dX1_take_6 (by decide) h (fun c6 h => ?_) (fun c6 h => ?_)
    · refine g_iconst (v := 0) hC dX1_take_10 (by decide) ?_
      refine g_istore (lv' := [(4, .int 0), (0, .ref (E.2.2.1 t)), (1, .ref (E.2.2.1 x1)), (2, .int x2), (3, .int x3)]) hC dX1_take_11 (by decide) rfl ?_
      exact g_sub [1, 2, 3, 4, 0] rfl (k_X1_take_13 hC hO hR hf t ht1 ht2 x1 hx1a hx1b x2 x3 FU 0 σ h)
    · exact g_vret hC hR dX1_take_9 h
theorem xk_X1_take (R : Room) (h1 : 1 + 1 ≤ R.frames) (h2 : 70 ≤ R.locals) : xw R yX1_take w_X1_take GT cX1_take 5 none rm_X1_take 3 := ⟨rfl, rfl, rfl, h1, h2, ⟨by decide, by decide⟩, by decide +kernel⟩
theorem c_X1_take (E : ET) (hE : EO E) (t : Nat) (ht1 : kd t = 1) (ht2 : AL E t) (x1 : Nat) (hx1a : kd x1 = 1) (hx1b : AL E x1) (x2 : Int32) (x3 : Int32) (σ : HS) (hn : f_X1_take t x1 x2 x3 σ ≠ none) : CoV E yX1_take w_X1_take rm_X1_take [.ref (E.2.2.1 t), .ref (E.2.2.1 x1), .int x2, .int x3] σ (f_X1_take t x1 x2 x3 σ) := CoV.of (lv := [(0, .ref (E.2.2.1 t)), (1, .ref (E.2.2.1 x1)), (2, .int x2), (3, .int x3)]) hE (plainFor_of_name (by decide)) rfl (Nat.le_of_ble_eq_true rfl) rfl (fun F hC hO hR => k_X1_take_0 hC hO hR hn t ht1 ht2 x1 hx1a hx1b x2 x3 σ rfl)
def rm_X1_become : Room := { frames := 2, cells := 0, slots := 0, locals := 70 }
theorem wc_X1_take : Cond.code yX1_take cX1_take 5 none ∈ GT := gtr_24 _ (List.mem_of_getElem? (i := 18) rfl)
theorem gc_X1_32 : GoodIn GT (wsV RX1 32 RX1 yX1_take w_X1_take) := gi_V (gtr_24 _ (List.mem_of_getElem? (i := 15) rfl)) (gtr_24 _ (List.mem_of_getElem? (i := 16) rfl)) (gtr_24 _ (List.mem_of_getElem? (i := 17) rfl)) (gtr_4 _ (List.mem_of_getElem? (i := 21) rfl)) wc_X1_take
set_option maxHeartbeats 4000000 in
set_option maxRecDepth 100000 in
theorem k_X1_become_23 {E : ET} {F : FT} {fo : Option HS} (hC : Cx E F 3 cX1_become RX1 GT) (hO : Ro F rm_X1_become) (hR : RV E F fo) (hf : fo ≠ none) (t : Nat) (ht1 : kd t = 1) (ht2 : AL E t) (x1 : Nat) (hx1a : kd x1 = 1) (hx1b : AL E x1) : ∀ (n : Nat) (x2 : Int32) (σ : HS), f_X1_become_23 t x1 n x2 σ = fo → G E F 23 [(0, .ref (E.2.2.1 t)), (1, .ref (E.2.2.1 x1)), (2, .int x2)] [] σ := by
  intro n
  induction n with
  | zero =>
    intro x2 σ h
    exact absurd (h.symm.trans rfl) hf
  | succ n ih =>
    intro x2 σ h
    refine g_iload_n hC dX1_become_23 rfl 2 rfl ?_
    refine g_aload_n hC dX1_become_24 rfl 1 rfl ?_
    refine g_getI (k := 5) hC cr1 ui_1 hx1a hx1b (by decide) fl_X1_29 rfl rfl dX1_become_25 ?_
    refine g_icmp_ge (tgt := 44) hC dX1_become_28 (by decide) h (fun c28 h => ?_) (fun c28 h => ?_)
    · exact g_vret hC hR dX1_become_44 h
    · refine g_aload_n hC dX1_become_31 rfl 0 rfl ?_
      refine g_aload_n hC dX1_become_32 rfl 1 rfl ?_
      refine g_iload_n hC dX1_become_33 rfl 2 rfl ?_
      refine g_iconst (v := 0) hC dX1_become_34 (by decide) ?_
      obtain ⟨q1, hq1, h⟩ := bd_of h hf
      refine g_cVV (As := [.ref (E.2.2.1 x1), .int x2, .int 0]) hC hO (c_X1_take _ hC.2.2.2.2.2.2.1 t ht1 ht2 x1 hx1a hx1b x2 0 σ (nn_of hq1)) gc_X1_32 (xk_X1_take _ (Nat.le_of_ble_eq_true rfl) (Nat.le_of_ble_eq_true rfl)) cr1 ht1 ht2 rfl (Nat.le_of_ble_eq_true rfl) dX1_become_35 hq1 ?_
      refine g_iinc (v := x2 + 1) (lv' := [(2, .int (x2 + 1)), (0, .ref (E.2.2.1 t)), (1, .ref (E.2.2.1 x1))]) hC dX1_become_38 2 rfl rfl (by decide) rfl ?_
      refine g_goto (tgt := 23) hC dX1_become_41 (by decide) ?_
      exact g_sub [1, 2, 0] rfl (ih (x2 + 1) q1 h)
set_option maxHeartbeats 4000000 in
set_option maxRecDepth 100000 in
theorem k_X1_become_0 {E : ET} {F : FT} {fo : Option HS} (hC : Cx E F 3 cX1_become RX1 GT) (hO : Ro F rm_X1_become) (hR : RV E F fo) (hf : fo ≠ none) (t : Nat) (ht1 : kd t = 1) (ht2 : AL E t) (x1 : Nat) (hx1a : kd x1 = 1) (hx1b : AL E x1) (σ : HS) (h : f_X1_become t x1 σ = fo) : G E F 0 [(0, .ref (E.2.2.1 t)), (1, .ref (E.2.2.1 x1))] [] σ := by
    refine g_aload_n hC dX1_become_0 rfl 0 rfl ?_
    refine g_aload_n hC dX1_become_1 rfl 1 rfl ?_
    refine g_getI (k := 3) hC cr1 ui_1 hx1a hx1b (by decide) fl_X1_22 rfl rfl dX1_become_2 ?_
    refine g_putI (k := 3) hC cr1 ui_1 tyX1_ok nmX1 ht1 ht2 (by decide) fl_X1_22 rfl rfl rfl rfl dX1_become_5 ?_
    refine g_aload_n hC dX1_become_8 rfl 0 rfl ?_
    refine g_aload_n hC dX1_become_9 rfl 1 rfl ?_
    refine g_getI (k := 4) hC cr1 ui_1 hx1a hx1b (by decide) fl_X1_26 rfl rfl dX1_become_10 ?_
    refine g_putI (k := 4) hC cr1 ui_1 tyX1_ok nmX1 ht1 ht2 (by decide) fl_X1_26 rfl rfl rfl rfl dX1_become_13 ?_
    refine g_aload_n hC dX1_become_16 rfl 0 rfl ?_
    refine g_iconst (v := 0) hC dX1_become_17 (by decide) ?_
    refine g_putI (k := 5) hC cr1 ui_1 tyX1_ok nmX1 ht1 ht2 (by decide) fl_X1_29 rfl rfl rfl rfl dX1_become_18 ?_
    refine g_iconst (v := 0) hC dX1_become_21 (by decide) ?_
    refine g_istore_n (lv' := [(2, .int 0), (0, .ref (E.2.2.1 t)), (1, .ref (E.2.2.1 x1))]) hC dX1_become_22 rfl (by decide) rfl ?_
    exact g_sub [1, 2, 0] rfl (k_X1_become_23 hC hO hR hf t ht1 ht2 x1 hx1a hx1b FU 0 (sI (sI (sI σ t 3 (σ.1 x1 3)) t 4 ((sI σ t 3 (σ.1 x1 3)).1 x1 4)) t 5 0) h)
theorem xk_X1_become (R : Room) (h1 : 2 + 1 ≤ R.frames) (h2 : 104 ≤ R.locals) : xw R yX1_become w_X1_become GT cX1_become 3 none rm_X1_become 1 := ⟨rfl, rfl, rfl, h1, h2, ⟨by decide, by decide⟩, by decide +kernel⟩
theorem c_X1_become (E : ET) (hE : EO E) (t : Nat) (ht1 : kd t = 1) (ht2 : AL E t) (x1 : Nat) (hx1a : kd x1 = 1) (hx1b : AL E x1) (σ : HS) (hn : f_X1_become t x1 σ ≠ none) : CoV E yX1_become w_X1_become rm_X1_become [.ref (E.2.2.1 t), .ref (E.2.2.1 x1)] σ (f_X1_become t x1 σ) := CoV.of (lv := [(0, .ref (E.2.2.1 t)), (1, .ref (E.2.2.1 x1))]) hE (plainFor_of_name (by decide)) rfl (Nat.le_of_ble_eq_true rfl) rfl (fun F hC hO hR => k_X1_become_0 hC hO hR hn t ht1 ht2 x1 hx1a hx1b σ rfl)
def rm_X1_product : Room := { frames := 0, cells := 0, slots := 0, locals := 0 }
set_option maxHeartbeats 4000000 in
set_option maxRecDepth 100000 in
theorem k_X1_product_5 {E : ET} {F : FT} {fo : Option (Int64 × HS)} (hC : Cx E F 6 cX1_product RX1 GT) (hO : Ro F rm_X1_product) (hR : RJ E F fo) (hf : fo ≠ none) (t : Nat) (ht1 : kd t = 1) (ht2 : AL E t) (x1 : Int32) (x2 : Nat) (hx2a : kd x2 = 14) (hx2b : AL E x2) : ∀ (n : Nat) (x3 : Int64) (x5 : Int32) (σ : HS), f_X1_product_5 t x1 x2 n x3 x5 σ = fo → G E F 5 [(0, .ref (E.2.2.1 t)), (1, .int x1), (2, .ref (E.2.2.1 x2)), (3, .long x3), (5, .int x5)] [] σ := by
  intro n
  induction n with
  | zero =>
    intro x3 x5 σ h
    exact absurd (h.symm.trans rfl) hf
  | succ n ih =>
    intro x3 x5 σ h
    refine g_iload hC dX1_product_5 4 rfl ?_
    refine g_aload_n hC dX1_product_7 rfl 0 rfl ?_
    refine g_getI (k := 3) hC cr1 ui_1 ht1 ht2 (by decide) fl_X1_22 rfl rfl dX1_product_8 ?_
    refine g_icmp_ge (tgt := 40) hC dX1_product_11 (by decide) h (fun c11 h => ?_) (fun c11 h => ?_)
    · refine g_lload_n hC dX1_product_40 rfl 3 rfl ?_
      exact g_lret hC hR dX1_product_41 h
    · refine g_lload_n hC dX1_product_14 rfl 3 rfl ?_
      refine g_aload_n hC dX1_product_15 rfl 0 rfl ?_
      refine g_getR (cj := 15) (k := 0) hC cr1 ui_1 ht1 ht2 (by decide) fl_X1_9 rfl rfl dX1_product_16 h hf (fun a1 ea1 ka1 na1 h => ?_)
      refine g_iload_n hC dX1_product_19 rfl 1 rfl ?_
      refine g_iconst (v := 4) hC dX1_product_20 (by decide) ?_
      refine g_imul hC dX1_product_21 ?_
      refine g_iload hC dX1_product_22 4 rfl ?_
      refine g_iadd hC dX1_product_24 ?_
      refine g_lald hC ka1 na1 dX1_product_25 h hf (fun h => ?_)
      refine g_aload_n hC dX1_product_26 rfl 2 rfl ?_
      refine g_iload hC dX1_product_27 4 rfl ?_
      refine g_iald hC hx2a hx2b dX1_product_29 h hf (fun h => ?_)
      refine g_i2l hC dX1_product_30 ?_
      refine g_lmul hC dX1_product_31 ?_
      refine g_ladd hC dX1_product_32 ?_
      refine g_lstore_n (lv' := [(3, .long (x3 + ((σ.2.1 a1 ((x1 * 4) + x5).toNatClampNeg) * ((σ.1 x2 x5.toNatClampNeg).toInt64)))), (0, .ref (E.2.2.1 t)), (1, .int x1), (2, .ref (E.2.2.1 x2)), (5, .int x5)]) hC dX1_product_33 rfl (by decide) rfl ?_
      refine g_iinc (v := x5 + 1) (lv' := [(5, .int (x5 + 1)), (3, .long (x3 + ((σ.2.1 a1 ((x1 * 4) + x5).toNatClampNeg) * ((σ.1 x2 x5.toNatClampNeg).toInt64)))), (0, .ref (E.2.2.1 t)), (1, .int x1), (2, .ref (E.2.2.1 x2))]) hC dX1_product_34 4 rfl rfl (by decide) rfl ?_
      refine g_goto (tgt := 5) hC dX1_product_37 (by decide) ?_
      exact g_sub [2, 3, 4, 1, 0] rfl (ih (x3 + ((σ.2.1 a1 ((x1 * 4) + x5).toNatClampNeg) * ((σ.1 x2 x5.toNatClampNeg).toInt64))) (x5 + 1) σ h)
set_option maxHeartbeats 4000000 in
set_option maxRecDepth 100000 in
theorem k_X1_product_0 {E : ET} {F : FT} {fo : Option (Int64 × HS)} (hC : Cx E F 6 cX1_product RX1 GT) (hO : Ro F rm_X1_product) (hR : RJ E F fo) (hf : fo ≠ none) (t : Nat) (ht1 : kd t = 1) (ht2 : AL E t) (x1 : Int32) (x2 : Nat) (hx2a : kd x2 = 14) (hx2b : AL E x2) (σ : HS) (h : f_X1_product t x1 x2 σ = fo) : G E F 0 [(0, .ref (E.2.2.1 t)), (1, .int x1), (2, .ref (E.2.2.1 x2))] [] σ := by
    refine g_lconst (v := 0) hC dX1_product_0 (by decide) ?_
    refine g_lstore_n (lv' := [(3, .long 0), (0, .ref (E.2.2.1 t)), (1, .int x1), (2, .ref (E.2.2.1 x2))]) hC dX1_product_1 rfl (by decide) rfl ?_
    refine g_iconst (v := 0) hC dX1_product_2 (by decide) ?_
    refine g_istore (lv' := [(5, .int 0), (3, .long 0), (0, .ref (E.2.2.1 t)), (1, .int x1), (2, .ref (E.2.2.1 x2))]) hC dX1_product_3 (by decide) rfl ?_
    exact g_sub [2, 3, 4, 1, 0] rfl (k_X1_product_5 hC hO hR hf t ht1 ht2 x1 x2 hx2a hx2b FU 0 0 σ h)
theorem xk_X1_product (R : Room) (h1 : 0 + 1 ≤ R.frames) (h2 : 37 ≤ R.locals) : xw R yX1_product w_X1_product GT cX1_product 6 (some .long) rm_X1_product 2 := ⟨rfl, rfl, rfl, h1, h2, ⟨by decide, by decide⟩, by decide +kernel⟩
theorem c_X1_product (E : ET) (hE : EO E) (t : Nat) (ht1 : kd t = 1) (ht2 : AL E t) (x1 : Int32) (x2 : Nat) (hx2a : kd x2 = 14) (hx2b : AL E x2) (σ : HS) (hn : f_X1_product t x1 x2 σ ≠ none) : CoJ E yX1_product w_X1_product rm_X1_product [.ref (E.2.2.1 t), .int x1, .ref (E.2.2.1 x2)] σ (f_X1_product t x1 x2 σ) := CoJ.of (lv := [(0, .ref (E.2.2.1 t)), (1, .int x1), (2, .ref (E.2.2.1 x2))]) hE (plainFor_of_name (by decide)) rfl (Nat.le_of_ble_eq_true rfl) rfl (fun F hC hO hR => k_X1_product_0 hC hO hR hn t ht1 ht2 x1 x2 hx2a hx2b σ rfl)
def rm_X1_sum : Room := { frames := 0, cells := 0, slots := 0, locals := 0 }
set_option maxHeartbeats 4000000 in
set_option maxRecDepth 100000 in
theorem k_X1_sum_5 {E : ET} {F : FT} {fo : Option (Int64 × HS)} (hC : Cx E F 5 cX1_sum RX1 GT) (hO : Ro F rm_X1_sum) (hR : RJ E F fo) (hf : fo ≠ none) (t : Nat) (ht1 : kd t = 1) (ht2 : AL E t) (x1 : Int32) : ∀ (n : Nat) (x2 : Int64) (x4 : Int32) (σ : HS), f_X1_sum_5 t x1 n x2 x4 σ = fo → G E F 5 [(0, .ref (E.2.2.1 t)), (1, .int x1), (2, .long x2), (4, .int x4)] [] σ := by
  intro n
  induction n with
  | zero =>
    intro x2 x4 σ h
    exact absurd (h.symm.trans rfl) hf
  | succ n ih =>
    intro x2 x4 σ h
    refine g_iload hC dX1_sum_5 3 rfl ?_
    refine g_aload_n hC dX1_sum_7 rfl 0 rfl ?_
    refine g_getI (k := 3) hC cr1 ui_1 ht1 ht2 (by decide) fl_X1_22 rfl rfl dX1_sum_8 ?_
    refine g_icmp_ge (tgt := 34) hC dX1_sum_11 (by decide) h (fun c11 h => ?_) (fun c11 h => ?_)
    · refine g_lload_n hC dX1_sum_34 rfl 2 rfl ?_
      exact g_lret hC hR dX1_sum_35 h
    · refine g_lload_n hC dX1_sum_14 rfl 2 rfl ?_
      refine g_aload_n hC dX1_sum_15 rfl 0 rfl ?_
      refine g_getR (cj := 15) (k := 0) hC cr1 ui_1 ht1 ht2 (by decide) fl_X1_9 rfl rfl dX1_sum_16 h hf (fun a1 ea1 ka1 na1 h => ?_)
      refine g_iload_n hC dX1_sum_19 rfl 1 rfl ?_
      refine g_iconst (v := 4) hC dX1_sum_20 (by decide) ?_
      refine g_imul hC dX1_sum_21 ?_
      refine g_iload hC dX1_sum_22 3 rfl ?_
      refine g_iadd hC dX1_sum_24 ?_
      refine g_lald hC ka1 na1 dX1_sum_25 h hf (fun h => ?_)
      refine g_ladd hC dX1_sum_26 ?_
      refine g_lstore_n (lv' := [(2, .long (x2 + (σ.2.1 a1 ((x1 * 4) + x4).toNatClampNeg))), (0, .ref (E.2.2.1 t)), (1, .int x1), (4, .int x4)]) hC dX1_sum_27 rfl (by decide) rfl ?_
      refine g_iinc (v := x4 + 1) (lv' := [(4, .int (x4 + 1)), (2, .long (x2 + (σ.2.1 a1 ((x1 * 4) + x4).toNatClampNeg))), (0, .ref (E.2.2.1 t)), (1, .int x1)]) hC dX1_sum_28 3 rfl rfl (by decide) rfl ?_
      refine g_goto (tgt := 5) hC dX1_sum_31 (by decide) ?_
      exact g_sub [2, 3, 1, 0] rfl (ih (x2 + (σ.2.1 a1 ((x1 * 4) + x4).toNatClampNeg)) (x4 + 1) σ h)
set_option maxHeartbeats 4000000 in
set_option maxRecDepth 100000 in
theorem k_X1_sum_0 {E : ET} {F : FT} {fo : Option (Int64 × HS)} (hC : Cx E F 5 cX1_sum RX1 GT) (hO : Ro F rm_X1_sum) (hR : RJ E F fo) (hf : fo ≠ none) (t : Nat) (ht1 : kd t = 1) (ht2 : AL E t) (x1 : Int32) (σ : HS) (h : f_X1_sum t x1 σ = fo) : G E F 0 [(0, .ref (E.2.2.1 t)), (1, .int x1)] [] σ := by
    refine g_lconst (v := 0) hC dX1_sum_0 (by decide) ?_
    refine g_lstore_n (lv' := [(2, .long 0), (0, .ref (E.2.2.1 t)), (1, .int x1)]) hC dX1_sum_1 rfl (by decide) rfl ?_
    refine g_iconst (v := 0) hC dX1_sum_2 (by decide) ?_
    refine g_istore (lv' := [(4, .int 0), (2, .long 0), (0, .ref (E.2.2.1 t)), (1, .int x1)]) hC dX1_sum_3 (by decide) rfl ?_
    exact g_sub [2, 3, 1, 0] rfl (k_X1_sum_5 hC hO hR hf t ht1 ht2 x1 FU 0 0 σ h)
theorem xk_X1_sum (R : Room) (h1 : 0 + 1 ≤ R.frames) (h2 : 36 ≤ R.locals) : xw R yX1_sum w_X1_sum GT cX1_sum 5 (some .long) rm_X1_sum 1 := ⟨rfl, rfl, rfl, h1, h2, ⟨by decide, by decide⟩, by decide +kernel⟩
theorem c_X1_sum (E : ET) (hE : EO E) (t : Nat) (ht1 : kd t = 1) (ht2 : AL E t) (x1 : Int32) (σ : HS) (hn : f_X1_sum t x1 σ ≠ none) : CoJ E yX1_sum w_X1_sum rm_X1_sum [.ref (E.2.2.1 t), .int x1] σ (f_X1_sum t x1 σ) := CoJ.of (lv := [(0, .ref (E.2.2.1 t)), (1, .int x1)]) hE (plainFor_of_name (by decide)) rfl (Nat.le_of_ble_eq_true rfl) rfl (fun F hC hO hR => k_X1_sum_0 hC hO hR hn t ht1 ht2 x1 σ rfl)
def rm_X1_isEdge : Room := { frames := 1, cells := 0, slots := 0, locals := 32 }
theorem wc_J6_bitCount_0f7a4 : Cond.code yJ6_bitCount_0f7a4 cJ6_bitCount_0f7a4 1 (some .int) ∈ GT := gtr_25 _ (List.mem_of_getElem? (i := 14) rfl)
theorem gc_X1_52 : GoodIn GT (va_wsS RX1 52 yJ6_bitCount_0f7a4 w_J6_bitCount_0f7a4) := gi_S (gtr_25 _ (List.mem_of_getElem? (i := 11) rfl)) (gtr_25 _ (List.mem_of_getElem? (i := 12) rfl)) (gtr_25 _ (List.mem_of_getElem? (i := 13) rfl)) wc_J6_bitCount_0f7a4
set_option maxHeartbeats 4000000 in
set_option maxRecDepth 100000 in
theorem k_X1_isEdge_68 {E : ET} {F : FT} {fo : Option (Int32 × HS)} (hC : Cx E F 5 cX1_isEdge RX1 GT) (hO : Ro F rm_X1_isEdge) (hR : RI E F .boolean fo) (hf : fo ≠ none) (t : Nat) (ht1 : kd t = 1) (ht2 : AL E t) (x1 : Int32) (x2 : Int32) (x3 : Int32) (x4 : Int32) (r32 : Int32 → HS → Option (Int32 × HS)) (h32 : ∀ (x4 : Int32) (σ : HS), r32 x4 σ = fo → G E F 32 [(0, .ref (E.2.2.1 t)), (1, .int x1), (2, .int x2), (3, .int x3), (4, .int x4)] [] σ) (σ : HS) (h : f_X1_isEdge_68 r32 t x1 x2 x3 x4 σ = fo) : G E F 68 [(0, .ref (E.2.2.1 t)), (1, .int x1), (2, .int x2), (3, .int x3), (4, .int x4)] [] σ := by
    refine g_iinc (v := x4 + 1) (lv' := [(4, .int (x4 + 1)), (0, .ref (E.2.2.1 t)), (1, .int x1), (2, .int x2), (3, .int x3)]) hC dX1_isEdge_68 4 rfl rfl (by decide) rfl ?_
    refine g_goto (tgt := 32) hC dX1_isEdge_71 (by decide) ?_
    exact g_sub [1, 2, 3, 4, 0] rfl (h32 (x4 + 1) σ h)
set_option maxHeartbeats 4000000 in
set_option maxRecDepth 100000 in
theorem k_X1_isEdge_32 {E : ET} {F : FT} {fo : Option (Int32 × HS)} (hC : Cx E F 5 cX1_isEdge RX1 GT) (hO : Ro F rm_X1_isEdge) (hR : RI E F .boolean fo) (hf : fo ≠ none) (t : Nat) (ht1 : kd t = 1) (ht2 : AL E t) (x1 : Int32) (x2 : Int32) (x3 : Int32) : ∀ (n : Nat) (x4 : Int32) (σ : HS), f_X1_isEdge_32 t x1 x2 x3 n x4 σ = fo → G E F 32 [(0, .ref (E.2.2.1 t)), (1, .int x1), (2, .int x2), (3, .int x3), (4, .int x4)] [] σ := by
  intro n
  induction n with
  | zero =>
    intro x4 σ h
    exact absurd (h.symm.trans rfl) hf
  | succ n ih =>
    intro x4 σ h
    refine g_iload hC dX1_isEdge_32 4 rfl ?_
    refine g_aload_n hC dX1_isEdge_34 rfl 0 rfl ?_
    refine g_getI (k := 5) hC cr1 ui_1 ht1 ht2 (by decide) fl_X1_29 rfl rfl dX1_isEdge_35 ?_
    refine g_icmp_ge (tgt := 74) hC dX1_isEdge_38 (by decide) h (fun c38 h => ?_) (fun c38 h => ?_)
    · refine g_iconst (v := 1) hC dX1_isEdge_74 (by decide) ?_
      exact g_iret hC hR dX1_isEdge_75 rfl h
    · refine g_aload_n hC dX1_isEdge_41 rfl 0 rfl ?_
      refine g_getR (cj := 14) (k := 1) hC cr1 ui_1 ht1 ht2 (by decide) fl_X1_15 rfl rfl dX1_isEdge_42 h hf (fun a1 ea1 ka1 na1 h => ?_)
      refine g_iload hC dX1_isEdge_45 4 rfl ?_
      refine g_iald hC ka1 na1 dX1_isEdge_47 h hf (fun h => ?_)
      refine g_iload_n hC dX1_isEdge_48 rfl 3 rfl ?_
      refine g_iand hC dX1_isEdge_49 ?_
      refine g_iload_n hC dX1_isEdge_50 rfl 3 rfl ?_
      refine g_icmp_ne (tgt := 68) hC dX1_isEdge_51 (by decide) h (fun c51 h => ?_) (fun c51 h => ?_)
      · exact g_sub [0, 1, 2, 3, 4] rfl (k_X1_isEdge_68 hC hO hR hf t ht1 ht2 x1 x2 x3 x4 (f_X1_isEdge_32 t x1 x2 x3 n) ih σ h)
      · refine g_iload hC dX1_isEdge_54 4 rfl ?_
        refine g_iload_n hC dX1_isEdge_56 rfl 1 rfl ?_
        refine g_icmp_eq (tgt := 68) hC dX1_isEdge_57 (by decide) h (fun c57 h => ?_) (fun c57 h => ?_)
        · exact g_sub [0, 1, 2, 3, 4] rfl (k_X1_isEdge_68 hC hO hR hf t ht1 ht2 x1 x2 x3 x4 (f_X1_isEdge_32 t x1 x2 x3 n) ih σ h)
        · refine g_iload hC dX1_isEdge_60 4 rfl ?_
          refine g_iload_n hC dX1_isEdge_62 rfl 2 rfl ?_
          refine g_icmp_eq (tgt := 68) hC dX1_isEdge_63 (by decide) h (fun c63 h => ?_) (fun c63 h => ?_)
          · exact g_sub [0, 1, 2, 3, 4] rfl (k_X1_isEdge_68 hC hO hR hf t ht1 ht2 x1 x2 x3 x4 (f_X1_isEdge_32 t x1 x2 x3 n) ih σ h)
          · refine g_iconst (v := 0) hC dX1_isEdge_66 (by decide) ?_
            exact g_iret hC hR dX1_isEdge_67 rfl h
set_option maxHeartbeats 4000000 in
set_option maxRecDepth 100000 in
theorem k_X1_isEdge_0 {E : ET} {F : FT} {fo : Option (Int32 × HS)} (hC : Cx E F 5 cX1_isEdge RX1 GT) (hO : Ro F rm_X1_isEdge) (hR : RI E F .boolean fo) (hf : fo ≠ none) (t : Nat) (ht1 : kd t = 1) (ht2 : AL E t) (x1 : Int32) (x2 : Int32) (σ : HS) (h : f_X1_isEdge t x1 x2 σ = fo) : G E F 0 [(0, .ref (E.2.2.1 t)), (1, .int x1), (2, .int x2)] [] σ := by
    refine g_aload_n hC dX1_isEdge_0 rfl 0 rfl ?_
    refine g_getR (cj := 14) (k := 1) hC cr1 ui_1 ht1 ht2 (by decide) fl_X1_15 rfl rfl dX1_isEdge_1 h hf (fun a1 ea1 ka1 na1 h => ?_)
    refine g_iload_n hC dX1_isEdge_4 rfl 1 rfl ?_
    refine g_iald hC ka1 na1 dX1_isEdge_5 h hf (fun h => ?_)
    refine g_aload_n hC dX1_isEdge_6 rfl 0 rfl ?_
    refine g_getR (cj := 14) (k := 1) hC cr1 ui_1 ht1 ht2 (by decide) fl_X1_15 rfl rfl dX1_isEdge_7 h hf (fun a2 ea2 ka2 na2 h => ?_)
    refine g_iload_n hC dX1_isEdge_10 rfl 2 rfl ?_
    refine g_iald hC ka2 na2 dX1_isEdge_11 h hf (fun h => ?_)
    refine g_iand hC dX1_isEdge_12 ?_
    refine g_istore_n (lv' := [(3, .int ((σ.1 a1 x1.toNatClampNeg) &&& (σ.1 a2 x2.toNatClampNeg))), (0, .ref (E.2.2.1 t)), (1, .int x1), (2, .int x2)]) hC dX1_isEdge_13 rfl (by decide) rfl ?_
    refine g_iload_n hC dX1_isEdge_14 rfl 0 rfl ?_
    obtain ⟨q3, hq3, h⟩ := bd_of h hf
    refine g_cSI (As := [.int ((σ.1 a1 x1.toNatClampNeg) &&& (σ.1 a2 x2.toNatClampNeg))]) hC hO (c_J6_bitCount_0f7a4 _ hC.2.2.2.2.2.2.1 ((σ.1 a1 x1.toNatClampNeg) &&& (σ.1 a2 x2.toNatClampNeg)) σ (nn_of hq3)) gc_X1_52 (xk_J6_bitCount_0f7a4 _ (Nat.le_of_ble_eq_true rfl) (Nat.le_of_ble_eq_true rfl)) rfl (Nat.le_of_ble_eq_true rfl) dX1_isEdge_15 hq3 ?_
    refine g_aload_n hC dX1_isEdge_18 rfl 1 rfl ?_
    refine g_getI (k := 3) hC cr1 ui_1 ht1 ht2 (by decide) fl_X1_22 rfl rfl dX1_isEdge_19 ?_
    refine g_iconst (v := 2) hC dX1_isEdge_22 (by decide) ?_
    refine g_isub hC dX1_isEdge_23 ?_
    refine g_icmp_ge (tgt := 29) hC dX1_isEdge_24 (by decide) h (fun c24 h => ?_) (fun c24 h => ?_)
    · refine g_iconst (v := 0) hC dX1_isEdge_29 (by decide) ?_
      refine g_istore (lv' := [(4, .int 0), (3, .int ((σ.1 a1 x1.toNatClampNeg) &&& (σ.1 a2 x2.toNatClampNeg))), (0, .ref (E.2.2.1 t)), (1, .int x1), (2, .int x2)]) hC dX1_isEdge_30 (by decide) rfl ?_
      exact g_sub [2, 3, 4, 1, 0] rfl (k_X1_isEdge_32 hC hO hR hf t ht1 ht2 x1 x2 ((σ.1 a1 x1.toNatClampNeg) &&& (σ.1 a2 x2.toNatClampNeg)) FU 0 q3.2 h)
    · refine g_iconst (v := 0) hC dX1_isEdge_27 (by decide) ?_
      exact g_iret hC hR dX1_isEdge_28 rfl h
theorem xk_X1_isEdge (R : Room) (h1 : 1 + 1 ≤ R.frames) (h2 : 68 ≤ R.locals) : xw R yX1_isEdge w_X1_isEdge GT cX1_isEdge 5 (some .boolean) rm_X1_isEdge 2 := ⟨rfl, rfl, rfl, h1, h2, ⟨by decide, by decide⟩, by decide +kernel⟩
theorem c_X1_isEdge (E : ET) (hE : EO E) (t : Nat) (ht1 : kd t = 1) (ht2 : AL E t) (x1 : Int32) (x2 : Int32) (σ : HS) (hn : f_X1_isEdge t x1 x2 σ ≠ none) : CoI E yX1_isEdge w_X1_isEdge rm_X1_isEdge [.ref (E.2.2.1 t), .int x1, .int x2] σ (f_X1_isEdge t x1 x2 σ) := CoI.of (lv := [(0, .ref (E.2.2.1 t)), (1, .int x1), (2, .int x2)]) hE (plainFor_of_name (by decide)) rfl (Nat.le_of_ble_eq_true rfl) rfl (fun F hC hO hR => k_X1_isEdge_0 hC hO hR hn t ht1 ht2 x1 x2 σ rfl)
def rm_X3_commonDivisor : Room := { frames := 0, cells := 0, slots := 0, locals := 0 }
set_option maxHeartbeats 4000000 in
set_option maxRecDepth 100000 in
theorem k_X3_commonDivisor_67 {E : ET} {F : FT} {fo : Option (Int64 × HS)} (hC : Cx E F 11 cX3_commonDivisor RX3 GT) (hO : Ro F rm_X3_commonDivisor) (hR : RJ E F fo) (hf : fo ≠ none) (x4 : Int64) (σ : HS) (h : f_X3_commonDivisor_67 x4 σ = fo) : G E F 67 [(4, .long x4)] [] σ := by
    refine g_lload hC dX3_commonDivisor_67 0 rfl ?_
    exact g_lret hC hR dX3_commonDivisor_69 h
set_option maxHeartbeats 4000000 in
set_option maxRecDepth 100000 in
theorem k_X3_commonDivisor_31 {E : ET} {F : FT} {fo : Option (Int64 × HS)} (hC : Cx E F 11 cX3_commonDivisor RX3 GT) (hO : Ro F rm_X3_commonDivisor) (hR : RJ E F fo) (hf : fo ≠ none) : ∀ (n : Nat) (x4 : Int64) (x6 : Int64) (x8 : Int32) (σ : HS), f_X3_commonDivisor_31 n x4 x6 x8 σ = fo → G E F 31 [(4, .long x4), (6, .long x6), (8, .int x8)] [] σ := by
  intro n
  induction n with
  | zero =>
    intro x4 x6 x8 σ h
    exact absurd (h.symm.trans rfl) hf
  | succ n ih =>
    intro x4 x6 x8 σ h
    refine g_iload hC dX3_commonDivisor_31 2 rfl ?_
    refine g_sipush (v := 200) hC dX3_commonDivisor_33 (by decide) ?_
    refine g_icmp_ge (tgt := 67) hC dX3_commonDivisor_36 (by decide) h (fun c36 h => ?_) (fun c36 h => ?_)
    · exact g_sub [0] rfl (k_X3_commonDivisor_67 hC hO hR hf x4 σ h)
    · refine g_lload hC dX3_commonDivisor_39 1 rfl ?_
      refine g_lconst (v := 0) hC dX3_commonDivisor_41 (by decide) ?_
      refine g_lc_eq (tgt := 67) hC dX3_commonDivisor_42 dX3_commonDivisor_43 (by decide) h (fun c42 h => ?_) (fun c42 h => ?_)
      · exact g_sub [0] rfl (k_X3_commonDivisor_67 hC hO hR hf x4 σ h)
      · refine g_lload hC dX3_commonDivisor_46 0 rfl ?_
        refine g_lload hC dX3_commonDivisor_48 1 rfl ?_
        obtain ⟨hz50, h⟩ := nz_of h hf
        refine g_lrem hC dX3_commonDivisor_50 hz50 ?_
        refine g_lstore (lv' := [(9, .long (x4 - x4 / x6 * x6)), (4, .long x4), (6, .long x6), (8, .int x8)]) hC dX3_commonDivisor_51 (by decide) rfl ?_
        refine g_lload hC dX3_commonDivisor_53 2 rfl ?_
        refine g_lstore (lv' := [(4, .long x6), (9, .long (x4 - x4 / x6 * x6)), (6, .long x6), (8, .int x8)]) hC dX3_commonDivisor_55 (by decide) rfl ?_
        refine g_lload hC dX3_commonDivisor_57 1 rfl ?_
        refine g_lstore (lv' := [(6, .long (x4 - x4 / x6 * x6)), (4, .long x6), (9, .long (x4 - x4 / x6 * x6)), (8, .int x8)]) hC dX3_commonDivisor_59 (by decide) rfl ?_
        refine g_iinc (v := x8 + 1) (lv' := [(8, .int (x8 + 1)), (6, .long (x4 - x4 / x6 * x6)), (4, .long x6), (9, .long (x4 - x4 / x6 * x6))]) hC dX3_commonDivisor_61 3 rfl rfl (by decide) rfl ?_
        refine g_goto (tgt := 31) hC dX3_commonDivisor_64 (by decide) ?_
        exact g_sub [2, 1, 0] rfl (ih x6 (x4 - x4 / x6 * x6) (x8 + 1) σ h)
set_option maxHeartbeats 4000000 in
set_option maxRecDepth 100000 in
theorem k_X3_commonDivisor_26 {E : ET} {F : FT} {fo : Option (Int64 × HS)} (hC : Cx E F 11 cX3_commonDivisor RX3 GT) (hO : Ro F rm_X3_commonDivisor) (hR : RJ E F fo) (hf : fo ≠ none) (x4 : Int64) (s0 : Int64) (σ : HS) (h : f_X3_commonDivisor_26 x4 s0 σ = fo) : G E F 26 [(4, .long x4)] [.long s0] σ := by
    refine g_lstore (lv' := [(6, .long s0), (4, .long x4)]) hC dX3_commonDivisor_26 (by decide) rfl ?_
    refine g_iconst (v := 0) hC dX3_commonDivisor_28 (by decide) ?_
    refine g_istore (lv' := [(8, .int 0), (6, .long s0), (4, .long x4)]) hC dX3_commonDivisor_29 (by decide) rfl ?_
    exact g_sub [2, 1, 0] rfl (k_X3_commonDivisor_31 hC hO hR hf FU x4 s0 0 σ h)
set_option maxHeartbeats 4000000 in
set_option maxRecDepth 100000 in
theorem k_X3_commonDivisor_12 {E : ET} {F : FT} {fo : Option (Int64 × HS)} (hC : Cx E F 11 cX3_commonDivisor RX3 GT) (hO : Ro F rm_X3_commonDivisor) (hR : RJ E F fo) (hf : fo ≠ none) (x2 : Int64) (s0 : Int64) (σ : HS) (h : f_X3_commonDivisor_12 x2 s0 σ = fo) : G E F 12 [(2, .long x2)] [.long s0] σ := by
    refine g_lstore (lv' := [(4, .long s0), (2, .long x2)]) hC dX3_commonDivisor_12 (by decide) rfl ?_
    refine g_lload_n hC dX3_commonDivisor_14 rfl 1 rfl ?_
    refine g_lconst (v := 0) hC dX3_commonDivisor_15 (by decide) ?_
    refine g_lc_ge (tgt := 25) hC dX3_commonDivisor_16 dX3_commonDivisor_17 (by decide) h (fun c16 h => ?_) (fun c16 h => ?_)
    · refine g_lload_n hC dX3_commonDivisor_25 rfl 1 rfl ?_
      exact g_sub [0] rfl (k_X3_commonDivisor_26 hC hO hR hf s0 x2 σ h)
    · refine g_lload_n hC dX3_commonDivisor_20 rfl 1 rfl ?_
      refine g_lneg hC dX3_commonDivisor_21 ?_
      refine g_goto (tgt := 26) hC dX3_commonDivisor_22 (by decide) ?_
      exact g_sub [0] rfl (k_X3_commonDivisor_26 hC hO hR hf s0 (-x2) σ h)
set_option maxHeartbeats 4000000 in
set_option maxRecDepth 100000 in
theorem k_X3_commonDivisor_0 {E : ET} {F : FT} {fo : Option (Int64 × HS)} (hC : Cx E F 11 cX3_commonDivisor RX3 GT) (hO : Ro F rm_X3_commonDivisor) (hR : RJ E F fo) (hf : fo ≠ none) (x0 : Int64) (x2 : Int64) (σ : HS) (h : f_X3_commonDivisor x0 x2 σ = fo) : G E F 0 [(0, .long x0), (2, .long x2)] [] σ := by
    refine g_lload_n hC dX3_commonDivisor_0 rfl 0 rfl ?_
    refine g_lconst (v := 0) hC dX3_commonDivisor_1 (by decide) ?_
    refine g_lc_ge (tgt := 11) hC dX3_commonDivisor_2 dX3_commonDivisor_3 (by decide) h (fun c2 h => ?_) (fun c2 h => ?_)
    · refine g_lload_n hC dX3_commonDivisor_11 rfl 0 rfl ?_
      exact g_sub [1] rfl (k_X3_commonDivisor_12 hC hO hR hf x2 x0 σ h)
    · refine g_lload_n hC dX3_commonDivisor_6 rfl 0 rfl ?_
      refine g_lneg hC dX3_commonDivisor_7 ?_
      refine g_goto (tgt := 12) hC dX3_commonDivisor_8 (by decide) ?_
      exact g_sub [1] rfl (k_X3_commonDivisor_12 hC hO hR hf x2 (-x0) σ h)
theorem xk_X3_commonDivisor (R : Room) (h1 : 0 + 1 ≤ R.frames) (h2 : 42 ≤ R.locals) : xw R yX3_commonDivisor w_X3_commonDivisor GT cX3_commonDivisor 11 (some .long) rm_X3_commonDivisor 2 := ⟨rfl, rfl, rfl, h1, h2, ⟨by decide, by decide⟩, by decide +kernel⟩
theorem c_X3_commonDivisor (E : ET) (hE : EO E) (x0 : Int64) (x2 : Int64) (σ : HS) (hn : f_X3_commonDivisor x0 x2 σ ≠ none) : CoJ E yX3_commonDivisor w_X3_commonDivisor rm_X3_commonDivisor [.long x0, .long x2] σ (f_X3_commonDivisor x0 x2 σ) := CoJ.of (lv := [(0, .long x0), (2, .long x2)]) hE (plainFor_of_name (by decide)) rfl (Nat.le_of_ble_eq_true rfl) rfl (fun F hC hO hR => k_X3_commonDivisor_0 hC hO hR hn x0 x2 σ rfl)
def rm_X1_join : Room := { frames := 1, cells := 0, slots := 0, locals := 42 }
theorem fl_X1_19 : Cond.fieldLink RX1 19 "EveryMeasure$Cone" (TX1 2).2.1 (TX1 2).2.2.1 ∈ GT := gtr_5 _ (List.mem_of_getElem? (i := 7) rfl)
theorem wc_X3_commonDivisor : Cond.code yX3_commonDivisor cX3_commonDivisor 11 (some .long) ∈ GT := gtr_26 _ (List.mem_of_getElem? (i := 0) rfl)
theorem gc_X1_58 : GoodIn GT (va_wsS RX1 58 yX3_commonDivisor w_X3_commonDivisor) := gi_S (gtr_25 _ (List.mem_of_getElem? (i := 22) rfl)) (gtr_25 _ (List.mem_of_getElem? (i := 23) rfl)) (gtr_3 _ (List.mem_of_getElem? (i := 0) rfl)) wc_X3_commonDivisor
set_option maxHeartbeats 4000000 in
set_option maxRecDepth 100000 in
theorem k_X1_join_134 {E : ET} {F : FT} {fo : Option HS} (hC : Cx E F 15 cX1_join RX1 GT) (hO : Ro F rm_X1_join) (hR : RV E F fo) (hf : fo ≠ none) (t : Nat) (ht1 : kd t = 1) (ht2 : AL E t) (x1 : Nat) (hx1a : kd x1 = 1) (hx1b : AL E x1) (x2 : Int32) (x3 : Int32) (x4 : Int32) (σ : HS) (h : f_X1_join_134 t x1 x2 x3 x4 σ = fo) : G E F 134 [(0, .ref (E.2.2.1 t)), (1, .ref (E.2.2.1 x1)), (2, .int x2), (3, .int x3), (4, .int x4)] [] σ := by
    refine g_aload_n hC dX1_join_134 rfl 0 rfl ?_
    refine g_getR (cj := 14) (k := 1) hC cr1 ui_1 ht1 ht2 (by decide) fl_X1_15 rfl rfl dX1_join_135 h hf (fun a1 ea1 ka1 na1 h => ?_)
    refine g_aload_n hC dX1_join_138 rfl 0 rfl ?_
    refine g_getI (k := 5) hC cr1 ui_1 ht1 ht2 (by decide) fl_X1_29 rfl rfl dX1_join_139 ?_
    refine g_aload_n hC dX1_join_142 rfl 1 rfl ?_
    refine g_getR (cj := 14) (k := 1) hC cr1 ui_1 hx1a hx1b (by decide) fl_X1_15 rfl rfl dX1_join_143 h hf (fun a2 ea2 ka2 na2 h => ?_)
    refine g_iload_n hC dX1_join_146 rfl 2 rfl ?_
    refine g_iald hC ka2 na2 dX1_join_147 h hf (fun h => ?_)
    refine g_aload_n hC dX1_join_148 rfl 1 rfl ?_
    refine g_getR (cj := 14) (k := 1) hC cr1 ui_1 hx1a hx1b (by decide) fl_X1_15 rfl rfl dX1_join_149 h hf (fun a3 ea3 ka3 na3 h => ?_)
    refine g_iload_n hC dX1_join_152 rfl 3 rfl ?_
    refine g_iald hC ka3 na3 dX1_join_153 h hf (fun h => ?_)
    refine g_iand hC dX1_join_154 ?_
    refine g_iload hC dX1_join_155 4 rfl ?_
    refine g_ior hC dX1_join_157 ?_
    refine g_iast hC ka1 na1 dX1_join_158 h hf (fun h => ?_)
    refine g_aload_n hC dX1_join_159 rfl 0 rfl ?_
    refine g_dup hC dX1_join_160 rfl ?_
    refine g_getI (k := 5) hC cr1 ui_1 ht1 ht2 (by decide) fl_X1_29 rfl rfl dX1_join_161 ?_
    refine g_iconst (v := 1) hC dX1_join_164 (by decide) ?_
    refine g_iadd hC dX1_join_165 ?_
    refine g_putI (k := 5) hC cr1 ui_1 tyX1_ok nmX1 ht1 ht2 (by decide) fl_X1_29 rfl rfl rfl rfl dX1_join_166 ?_
    exact g_vret hC hR dX1_join_169 h
set_option maxHeartbeats 4000000 in
set_option maxRecDepth 100000 in
theorem k_X1_join_107 {E : ET} {F : FT} {fo : Option HS} (hC : Cx E F 15 cX1_join RX1 GT) (hO : Ro F rm_X1_join) (hR : RV E F fo) (hf : fo ≠ none) (t : Nat) (ht1 : kd t = 1) (ht2 : AL E t) (x1 : Nat) (hx1a : kd x1 = 1) (hx1b : AL E x1) (x2 : Int32) (x3 : Int32) (x4 : Int32) (x9 : Int64) (x11 : Int32) : ∀ (n : Nat) (x12 : Int32) (σ : HS), f_X1_join_107 t x1 x2 x3 x4 x9 x11 n x12 σ = fo → G E F 107 [(0, .ref (E.2.2.1 t)), (1, .ref (E.2.2.1 x1)), (2, .int x2), (3, .int x3), (4, .int x4), (9, .long x9), (11, .int x11), (12, .int x12)] [] σ := by
  intro n
  induction n with
  | zero =>
    intro x12 σ h
    exact absurd (h.symm.trans rfl) hf
  | succ n ih =>
    intro x12 σ h
    refine g_iload hC dX1_join_107 7 rfl ?_
    refine g_iconst (v := 4) hC dX1_join_109 (by decide) ?_
    refine g_icmp_ge (tgt := 134) hC dX1_join_110 (by decide) h (fun c110 h => ?_) (fun c110 h => ?_)
    · exact g_sub [0, 1, 2, 3, 4] rfl (k_X1_join_134 hC hO hR hf t ht1 ht2 x1 hx1a hx1b x2 x3 x4 σ h)
    · refine g_aload_n hC dX1_join_113 rfl 0 rfl ?_
      refine g_getR (cj := 15) (k := 0) hC cr1 ui_1 ht1 ht2 (by decide) fl_X1_9 rfl rfl dX1_join_114 h hf (fun a1 ea1 ka1 na1 h => ?_)
      refine g_iload hC dX1_join_117 6 rfl ?_
      refine g_iload hC dX1_join_119 7 rfl ?_
      refine g_iadd hC dX1_join_121 ?_
      refine g_dup2_11 hC dX1_join_122 rfl rfl ?_
      refine g_lald hC ka1 na1 dX1_join_123 h hf (fun h => ?_)
      refine g_lload hC dX1_join_124 5 rfl ?_
      obtain ⟨hz126, h⟩ := nz_of h hf
      refine g_ldiv hC dX1_join_126 hz126 ?_
      refine g_last hC ka1 na1 dX1_join_127 h hf (fun h => ?_)
      refine g_iinc (v := x12 + 1) (lv' := [(12, .int (x12 + 1)), (0, .ref (E.2.2.1 t)), (1, .ref (E.2.2.1 x1)), (2, .int x2), (3, .int x3), (4, .int x4), (9, .long x9), (11, .int x11)]) hC dX1_join_128 7 rfl rfl (by decide) rfl ?_
      refine g_goto (tgt := 107) hC dX1_join_131 (by decide) ?_
      exact g_sub [1, 2, 3, 4, 5, 6, 7, 0] rfl (ih (x12 + 1) (sJ σ a1 (x11 + x12).toNatClampNeg ((σ.2.1 a1 (x11 + x12).toNatClampNeg) / x9)) h)
set_option maxHeartbeats 4000000 in
set_option maxRecDepth 100000 in
theorem k_X1_join_41 {E : ET} {F : FT} {fo : Option HS} (hC : Cx E F 15 cX1_join RX1 GT) (hO : Ro F rm_X1_join) (hR : RV E F fo) (hf : fo ≠ none) (t : Nat) (ht1 : kd t = 1) (ht2 : AL E t) (x1 : Nat) (hx1a : kd x1 = 1) (hx1b : AL E x1) (x2 : Int32) (x3 : Int32) (x4 : Int32) (x5 : Int64) (x7 : Int64) (x11 : Int32) : ∀ (n : Nat) (x9 : Int64) (x12 : Int32) (σ : HS), f_X1_join_41 t x1 x2 x3 x4 x5 x7 x11 n x9 x12 σ = fo → G E F 41 [(0, .ref (E.2.2.1 t)), (1, .ref (E.2.2.1 x1)), (2, .int x2), (3, .int x3), (4, .int x4), (5, .long x5), (7, .long x7), (9, .long x9), (11, .int x11), (12, .int x12)] [] σ := by
  intro n
  induction n with
  | zero =>
    intro x9 x12 σ h
    exact absurd (h.symm.trans rfl) hf
  | succ n ih =>
    intro x9 x12 σ h
    refine g_iload hC dX1_join_41 9 rfl ?_
    refine g_iconst (v := 4) hC dX1_join_43 (by decide) ?_
    refine g_icmp_ge (tgt := 97) hC dX1_join_44 (by decide) h (fun c44 h => ?_) (fun c44 h => ?_)
    · refine g_lload hC dX1_join_97 7 rfl ?_
      refine g_lconst (v := 1) hC dX1_join_99 (by decide) ?_
      refine g_lc_le (tgt := 134) hC dX1_join_100 dX1_join_101 (by decide) h (fun c100 h => ?_) (fun c100 h => ?_)
      · exact g_sub [0, 1, 2, 3, 4] rfl (k_X1_join_134 hC hO hR hf t ht1 ht2 x1 hx1a hx1b x2 x3 x4 σ h)
      · refine g_iconst (v := 0) hC dX1_join_104 (by decide) ?_
        refine g_istore (lv' := [(12, .int 0), (0, .ref (E.2.2.1 t)), (1, .ref (E.2.2.1 x1)), (2, .int x2), (3, .int x3), (4, .int x4), (5, .long x5), (7, .long x7), (9, .long x9), (11, .int x11)]) hC dX1_join_105 (by decide) rfl ?_
        exact g_sub [1, 2, 3, 4, 5, 8, 9, 0] rfl (k_X1_join_107 hC hO hR hf t ht1 ht2 x1 hx1a hx1b x2 x3 x4 x9 x11 FU 0 σ h)
    · refine g_lload hC dX1_join_47 6 rfl ?_
      refine g_aload_n hC dX1_join_49 rfl 1 rfl ?_
      refine g_iload_n hC dX1_join_50 rfl 2 rfl ?_
      refine g_iload hC dX1_join_51 9 rfl ?_
      obtain ⟨q1, hq1, h⟩ := bd_of h hf
      refine g_cVJ (As := [.int x2, .int x12]) hC hO (c_X1_weight _ hC.2.2.2.2.2.2.1 x1 hx1a hx1b x2 x12 σ (nn_of hq1)) gc_X1_48 (xk_X1_weight _ (Nat.le_of_ble_eq_true rfl) (Nat.le_of_ble_eq_true rfl)) cr1 hx1a hx1b rfl (Nat.le_of_ble_eq_true rfl) dX1_join_53 hq1 ?_
      refine g_lmul hC dX1_join_56 ?_
      refine g_lload hC dX1_join_57 5 rfl ?_
      refine g_aload_n hC dX1_join_59 rfl 1 rfl ?_
      refine g_iload_n hC dX1_join_60 rfl 3 rfl ?_
      refine g_iload hC dX1_join_61 9 rfl ?_
      obtain ⟨q2, hq2, h⟩ := bd_of h hf
      refine g_cVJ (As := [.int x3, .int x12]) hC hO (c_X1_weight _ hC.2.2.2.2.2.2.1 x1 hx1a hx1b x3 x12 q1.2 (nn_of hq2)) gc_X1_48 (xk_X1_weight _ (Nat.le_of_ble_eq_true rfl) (Nat.le_of_ble_eq_true rfl)) cr1 hx1a hx1b rfl (Nat.le_of_ble_eq_true rfl) dX1_join_63 hq2 ?_
      refine g_lmul hC dX1_join_66 ?_
      refine g_ladd hC dX1_join_67 ?_
      refine g_lstore (lv' := [(13, .long ((x7 * q1.1) + (x5 * q2.1))), (0, .ref (E.2.2.1 t)), (1, .ref (E.2.2.1 x1)), (2, .int x2), (3, .int x3), (4, .int x4), (5, .long x5), (7, .long x7), (9, .long x9), (11, .int x11), (12, .int x12)]) hC dX1_join_68 (by decide) rfl ?_
      refine g_aload_n hC dX1_join_70 rfl 1 rfl ?_
      refine g_getR (cj := 15) (k := 0) hC cr1 ui_1 ht1 ht2 (by decide) fl_X1_9 rfl rfl dX1_join_71 h hf (fun a3 ea3 ka3 na3 h => ?_)
      refine g_iload hC dX1_join_74 9 rfl ?_
      refine g_iload hC dX1_join_76 10 rfl ?_
      refine g_iadd hC dX1_join_78 ?_
      refine g_lload hC dX1_join_79 0 rfl ?_
      refine g_last hC ka3 na3 dX1_join_81 h hf (fun h => ?_)
      refine g_lload hC dX1_join_82 0 rfl ?_
      refine g_lload hC dX1_join_84 8 rfl ?_
      obtain ⟨q4, hq4, h⟩ := bd_of h hf
      refine g_cSJ (As := [.long ((x7 * q1.1) + (x5 * q2.1)), .long x9]) hC hO (c_X3_commonDivisor _ hC.2.2.2.2.2.2.1 ((x7 * q1.1) + (x5 * q2.1)) x9 (sJ q2.2 a3 (x11 + x12).toNatClampNeg ((x7 * q1.1) + (x5 * q2.1))) (nn_of hq4)) gc_X1_58 (xk_X3_commonDivisor _ (Nat.le_of_ble_eq_true rfl) (Nat.le_of_ble_eq_true rfl)) rfl (Nat.le_of_ble_eq_true rfl) dX1_join_86 hq4 ?_
      refine g_lstore (lv' := [(9, .long q4.1), (13, .long ((x7 * q1.1) + (x5 * q2.1))), (0, .ref (E.2.2.1 t)), (1, .ref (E.2.2.1 x1)), (2, .int x2), (3, .int x3), (4, .int x4), (5, .long x5), (7, .long x7), (11, .int x11), (12, .int x12)]) hC dX1_join_89 (by decide) rfl ?_
      refine g_iinc (v := x12 + 1) (lv' := [(12, .int (x12 + 1)), (9, .long q4.1), (13, .long ((x7 * q1.1) + (x5 * q2.1))), (0, .ref (E.2.2.1 t)), (1, .ref (E.2.2.1 x1)), (2, .int x2), (3, .int x3), (4, .int x4), (5, .long x5), (7, .long x7), (11, .int x11)]) hC dX1_join_91 10 rfl rfl (by decide) rfl ?_
      refine g_goto (tgt := 41) hC dX1_join_94 (by decide) ?_
      exact g_sub [3, 4, 5, 6, 7, 8, 9, 1, 10, 0] rfl (ih q4.1 (x12 + 1) q4.2 h)
set_option maxHeartbeats 4000000 in
set_option maxRecDepth 100000 in
theorem k_X1_join_0 {E : ET} {F : FT} {fo : Option HS} (hC : Cx E F 15 cX1_join RX1 GT) (hO : Ro F rm_X1_join) (hR : RV E F fo) (hf : fo ≠ none) (t : Nat) (ht1 : kd t = 1) (ht2 : AL E t) (x1 : Nat) (hx1a : kd x1 = 1) (hx1b : AL E x1) (x2 : Int32) (x3 : Int32) (x4 : Int32) (σ : HS) (h : f_X1_join t x1 x2 x3 x4 σ = fo) : G E F 0 [(0, .ref (E.2.2.1 t)), (1, .ref (E.2.2.1 x1)), (2, .int x2), (3, .int x3), (4, .int x4)] [] σ := by
    refine g_aload_n hC dX1_join_0 rfl 0 rfl ?_
    refine g_getI (k := 5) hC cr1 ui_1 ht1 ht2 (by decide) fl_X1_29 rfl rfl dX1_join_1 ?_
    refine g_bipush (v := 44) hC dX1_join_4 (by decide) ?_
    refine g_icmp_lt (tgt := 10) hC dX1_join_6 (by decide) h (fun c6 h => ?_) (fun c6 h => ?_)
    · refine g_aload_n hC dX1_join_10 rfl 1 rfl ?_
      refine g_getR (cj := 15) (k := 2) hC cr1 ui_1 hx1a hx1b (by decide) fl_X1_19 rfl rfl dX1_join_11 h hf (fun a1 ea1 ka1 na1 h => ?_)
      refine g_iload_n hC dX1_join_14 rfl 2 rfl ?_
      refine g_lald hC ka1 na1 dX1_join_15 h hf (fun h => ?_)
      refine g_lstore (lv' := [(5, .long (σ.2.1 a1 x2.toNatClampNeg)), (0, .ref (E.2.2.1 t)), (1, .ref (E.2.2.1 x1)), (2, .int x2), (3, .int x3), (4, .int x4)]) hC dX1_join_16 (by decide) rfl ?_
      refine g_aload_n hC dX1_join_18 rfl 2 rfl ?_
      refine g_getR (cj := 15) (k := 2) hC cr1 ui_1 hx1a hx1b (by decide) fl_X1_19 rfl rfl dX1_join_19 h hf (fun a2 ea2 ka2 na2 h => ?_)
      refine g_iload_n hC dX1_join_22 rfl 4 rfl ?_
      refine g_lald hC ka2 na2 dX1_join_23 h hf (fun h => ?_)
      refine g_lneg hC dX1_join_24 ?_
      refine g_lstore (lv' := [(7, .long (-(σ.2.1 a2 x3.toNatClampNeg))), (5, .long (σ.2.1 a1 x2.toNatClampNeg)), (0, .ref (E.2.2.1 t)), (1, .ref (E.2.2.1 x1)), (2, .int x2), (3, .int x3), (4, .int x4)]) hC dX1_join_25 (by decide) rfl ?_
      refine g_lconst (v := 0) hC dX1_join_27 (by decide) ?_
      refine g_lstore (lv' := [(9, .long 0), (7, .long (-(σ.2.1 a2 x3.toNatClampNeg))), (5, .long (σ.2.1 a1 x2.toNatClampNeg)), (0, .ref (E.2.2.1 t)), (1, .ref (E.2.2.1 x1)), (2, .int x2), (3, .int x3), (4, .int x4)]) hC dX1_join_28 (by decide) rfl ?_
      refine g_aload_n hC dX1_join_30 rfl 3 rfl ?_
      refine g_getI (k := 5) hC cr1 ui_1 ht1 ht2 (by decide) fl_X1_29 rfl rfl dX1_join_31 ?_
      refine g_iconst (v := 4) hC dX1_join_34 (by decide) ?_
      refine g_imul hC dX1_join_35 ?_
      refine g_istore (lv' := [(11, .int ((σ.1 t 5) * 4)), (9, .long 0), (7, .long (-(σ.2.1 a2 x3.toNatClampNeg))), (5, .long (σ.2.1 a1 x2.toNatClampNeg)), (0, .ref (E.2.2.1 t)), (1, .ref (E.2.2.1 x1)), (2, .int x2), (3, .int x3), (4, .int x4)]) hC dX1_join_36 (by decide) rfl ?_
      refine g_iconst (v := 0) hC dX1_join_38 (by decide) ?_
      refine g_istore (lv' := [(12, .int 0), (11, .int ((σ.1 t 5) * 4)), (9, .long 0), (7, .long (-(σ.2.1 a2 x3.toNatClampNeg))), (5, .long (σ.2.1 a1 x2.toNatClampNeg)), (0, .ref (E.2.2.1 t)), (1, .ref (E.2.2.1 x1)), (2, .int x2), (3, .int x3), (4, .int x4)]) hC dX1_join_39 (by decide) rfl ?_
      exact g_sub [5, 6, 7, 8, 9, 4, 3, 2, 1, 0] rfl (k_X1_join_41 hC hO hR hf t ht1 ht2 x1 hx1a hx1b x2 x3 x4 (σ.2.1 a1 x2.toNatClampNeg) (-(σ.2.1 a2 x3.toNatClampNeg)) ((σ.1 t 5) * 4) FU 0 0 σ h)
    · exact g_vret hC hR dX1_join_9 h
theorem xk_X1_join (R : Room) (h1 : 1 + 1 ≤ R.frames) (h2 : 88 ≤ R.locals) : xw R yX1_join w_X1_join GT cX1_join 15 none rm_X1_join 4 := ⟨rfl, rfl, rfl, h1, h2, ⟨by decide, by decide⟩, by decide +kernel⟩
theorem c_X1_join (E : ET) (hE : EO E) (t : Nat) (ht1 : kd t = 1) (ht2 : AL E t) (x1 : Nat) (hx1a : kd x1 = 1) (hx1b : AL E x1) (x2 : Int32) (x3 : Int32) (x4 : Int32) (σ : HS) (hn : f_X1_join t x1 x2 x3 x4 σ ≠ none) : CoV E yX1_join w_X1_join rm_X1_join [.ref (E.2.2.1 t), .ref (E.2.2.1 x1), .int x2, .int x3, .int x4] σ (f_X1_join t x1 x2 x3 x4 σ) := CoV.of (lv := [(0, .ref (E.2.2.1 t)), (1, .ref (E.2.2.1 x1)), (2, .int x2), (3, .int x3), (4, .int x4)]) hE (plainFor_of_name (by decide)) rfl (Nat.le_of_ble_eq_true rfl) rfl (fun F hC hO hR => k_X1_join_0 hC hO hR hn t ht1 ht2 x1 hx1a hx1b x2 x3 x4 σ rfl)
def rm_X1_becomeCut : Room := { frames := 2, cells := 0, slots := 0, locals := 88 }
theorem wc_X1_isEdge : Cond.code yX1_isEdge cX1_isEdge 5 (some .boolean) ∈ GT := gtr_25 _ (List.mem_of_getElem? (i := 10) rfl)
theorem gc_X1_40 : GoodIn GT (wsV RX1 40 RX1 yX1_isEdge w_X1_isEdge) := gi_V (gtr_25 _ (List.mem_of_getElem? (i := 7) rfl)) (gtr_25 _ (List.mem_of_getElem? (i := 8) rfl)) (gtr_25 _ (List.mem_of_getElem? (i := 9) rfl)) (gtr_4 _ (List.mem_of_getElem? (i := 21) rfl)) wc_X1_isEdge
theorem wc_X1_join : Cond.code yX1_join cX1_join 15 none ∈ GT := gtr_25 _ (List.mem_of_getElem? (i := 21) rfl)
theorem gc_X1_44 : GoodIn GT (wsV RX1 44 RX1 yX1_join w_X1_join) := gi_V (gtr_25 _ (List.mem_of_getElem? (i := 18) rfl)) (gtr_25 _ (List.mem_of_getElem? (i := 19) rfl)) (gtr_25 _ (List.mem_of_getElem? (i := 20) rfl)) (gtr_4 _ (List.mem_of_getElem? (i := 21) rfl)) wc_X1_join
theorem wc_X1_product : Cond.code yX1_product cX1_product 6 (some .long) ∈ GT := gtr_25 _ (List.mem_of_getElem? (i := 6) rfl)
theorem gc_X1_36 : GoodIn GT (wsV RX1 36 RX1 yX1_product w_X1_product) := gi_V (gtr_25 _ (List.mem_of_getElem? (i := 3) rfl)) (gtr_25 _ (List.mem_of_getElem? (i := 4) rfl)) (gtr_25 _ (List.mem_of_getElem? (i := 5) rfl)) (gtr_4 _ (List.mem_of_getElem? (i := 21) rfl)) wc_X1_product
set_option maxHeartbeats 4000000 in
set_option maxRecDepth 100000 in
theorem k_X1_becomeCut_174 {E : ET} {F : FT} {fo : Option HS} (hC : Cx E F 7 cX1_becomeCut RX1 GT) (hO : Ro F rm_X1_becomeCut) (hR : RV E F fo) (hf : fo ≠ none) (t : Nat) (ht1 : kd t = 1) (ht2 : AL E t) (x1 : Nat) (hx1a : kd x1 = 1) (hx1b : AL E x1) (x3 : Int32) (x4 : Int32) (x5 : Int32) (r108 : Int32 → HS → Option HS) (h108 : ∀ (x4 : Int32) (σ : HS), r108 x4 σ = fo → G E F 108 [(0, .ref (E.2.2.1 t)), (1, .ref (E.2.2.1 x1)), (3, .int x3), (4, .int x4)] [] σ) (r120 : Int32 → HS → Option HS) (h120 : ∀ (x5 : Int32) (σ : HS), r120 x5 σ = fo → G E F 120 [(0, .ref (E.2.2.1 t)), (1, .ref (E.2.2.1 x1)), (3, .int x3), (4, .int x4), (5, .int x5)] [] σ) (σ : HS) (h : f_X1_becomeCut_174 r108 r120 t x1 x3 x4 x5 σ = fo) : G E F 174 [(0, .ref (E.2.2.1 t)), (1, .ref (E.2.2.1 x1)), (3, .int x3), (4, .int x4), (5, .int x5)] [] σ := by
    refine g_iinc (v := x5 + 1) (lv' := [(5, .int (x5 + 1)), (0, .ref (E.2.2.1 t)), (1, .ref (E.2.2.1 x1)), (3, .int x3), (4, .int x4)]) hC dX1_becomeCut_174 4 rfl rfl (by decide) rfl ?_
    refine g_goto (tgt := 120) hC dX1_becomeCut_177 (by decide) ?_
    exact g_sub [1, 2, 3, 4, 0] rfl (h120 (x5 + 1) σ h)
set_option maxHeartbeats 4000000 in
set_option maxRecDepth 100000 in
theorem k_X1_becomeCut_120 {E : ET} {F : FT} {fo : Option HS} (hC : Cx E F 7 cX1_becomeCut RX1 GT) (hO : Ro F rm_X1_becomeCut) (hR : RV E F fo) (hf : fo ≠ none) (t : Nat) (ht1 : kd t = 1) (ht2 : AL E t) (x1 : Nat) (hx1a : kd x1 = 1) (hx1b : AL E x1) (x3 : Int32) (x4 : Int32) (r108 : Int32 → HS → Option HS) (h108 : ∀ (x4 : Int32) (σ : HS), r108 x4 σ = fo → G E F 108 [(0, .ref (E.2.2.1 t)), (1, .ref (E.2.2.1 x1)), (3, .int x3), (4, .int x4)] [] σ) : ∀ (n : Nat) (x5 : Int32) (σ : HS), f_X1_becomeCut_120 t x1 x3 x4 r108 n x5 σ = fo → G E F 120 [(0, .ref (E.2.2.1 t)), (1, .ref (E.2.2.1 x1)), (3, .int x3), (4, .int x4), (5, .int x5)] [] σ := by
  intro n
  induction n with
  | zero =>
    intro x5 σ h
    exact absurd (h.symm.trans rfl) hf
  | succ n ih =>
    intro x5 σ h
    refine g_iload hC dX1_becomeCut_120 4 rfl ?_
    refine g_aload_n hC dX1_becomeCut_122 rfl 1 rfl ?_
    refine g_getI (k := 5) hC cr1 ui_1 hx1a hx1b (by decide) fl_X1_29 rfl rfl dX1_becomeCut_123 ?_
    refine g_icmp_ge (tgt := 180) hC dX1_becomeCut_126 (by decide) h (fun c126 h => ?_) (fun c126 h => ?_)
    · refine g_iinc (v := x4 + 1) (lv' := [(4, .int (x4 + 1)), (0, .ref (E.2.2.1 t)), (1, .ref (E.2.2.1 x1)), (3, .int x3), (5, .int x5)]) hC dX1_becomeCut_180 3 rfl rfl (by decide) rfl ?_
      refine g_goto (tgt := 108) hC dX1_becomeCut_183 (by decide) ?_
      exact g_sub [1, 2, 3, 0] rfl (h108 (x4 + 1) σ h)
    · refine g_aload_n hC dX1_becomeCut_129 rfl 1 rfl ?_
      refine g_getR (cj := 15) (k := 2) hC cr1 ui_1 hx1a hx1b (by decide) fl_X1_19 rfl rfl dX1_becomeCut_130 h hf (fun a1 ea1 ka1 na1 h => ?_)
      refine g_iload hC dX1_becomeCut_133 3 rfl ?_
      refine g_lald hC ka1 na1 dX1_becomeCut_135 h hf (fun h => ?_)
      refine g_lconst (v := 0) hC dX1_becomeCut_136 (by decide) ?_
      refine g_lc_le (tgt := 174) hC dX1_becomeCut_137 dX1_becomeCut_138 (by decide) h (fun c137 h => ?_) (fun c137 h => ?_)
      · exact g_sub [0, 1, 2, 3, 4] rfl (k_X1_becomeCut_174 hC hO hR hf t ht1 ht2 x1 hx1a hx1b x3 x4 x5 r108 h108 (f_X1_becomeCut_120 t x1 x3 x4 r108 n) ih σ h)
      · refine g_aload_n hC dX1_becomeCut_141 rfl 1 rfl ?_
        refine g_getR (cj := 15) (k := 2) hC cr1 ui_1 hx1a hx1b (by decide) fl_X1_19 rfl rfl dX1_becomeCut_142 h hf (fun a2 ea2 ka2 na2 h => ?_)
        refine g_iload hC dX1_becomeCut_145 4 rfl ?_
        refine g_lald hC ka2 na2 dX1_becomeCut_147 h hf (fun h => ?_)
        refine g_lconst (v := 0) hC dX1_becomeCut_148 (by decide) ?_
        refine g_lc_ge (tgt := 174) hC dX1_becomeCut_149 dX1_becomeCut_150 (by decide) h (fun c149 h => ?_) (fun c149 h => ?_)
        · exact g_sub [0, 1, 2, 3, 4] rfl (k_X1_becomeCut_174 hC hO hR hf t ht1 ht2 x1 hx1a hx1b x3 x4 x5 r108 h108 (f_X1_becomeCut_120 t x1 x3 x4 r108 n) ih σ h)
        · refine g_aload_n hC dX1_becomeCut_153 rfl 1 rfl ?_
          refine g_iload hC dX1_becomeCut_154 3 rfl ?_
          refine g_iload hC dX1_becomeCut_156 4 rfl ?_
          obtain ⟨q3, hq3, h⟩ := bd_of h hf
          refine g_cVI (As := [.int x4, .int x5]) hC hO (c_X1_isEdge _ hC.2.2.2.2.2.2.1 x1 hx1a hx1b x4 x5 σ (nn_of hq3)) gc_X1_40 (xk_X1_isEdge _ (Nat.le_of_ble_eq_true rfl) (Nat.le_of_ble_eq_true rfl)) cr1 hx1a hx1b rfl (Nat.le_of_ble_eq_true rfl) dX1_becomeCut_158 hq3 ?_
          refine g_if_eq (tgt := 174) hC dX1_becomeCut_161 (by decide) h (fun c161 h => ?_) (fun c161 h => ?_)
          · exact g_sub [0, 1, 2, 3, 4] rfl (k_X1_becomeCut_174 hC hO hR hf t ht1 ht2 x1 hx1a hx1b x3 x4 x5 r108 h108 (f_X1_becomeCut_120 t x1 x3 x4 r108 n) ih q3.2 h)
          · refine g_aload_n hC dX1_becomeCut_164 rfl 0 rfl ?_
            refine g_aload_n hC dX1_becomeCut_165 rfl 1 rfl ?_
            refine g_iload hC dX1_becomeCut_166 3 rfl ?_
            refine g_iload hC dX1_becomeCut_168 4 rfl ?_
            refine g_iload_n hC dX1_becomeCut_170 rfl 2 rfl ?_
            obtain ⟨q4, hq4, h⟩ := bd_of h hf
            refine g_cVV (As := [.ref (E.2.2.1 x1), .int x4, .int x5, .int x3]) hC hO (c_X1_join _ hC.2.2.2.2.2.2.1 t ht1 ht2 x1 hx1a hx1b x4 x5 x3 q3.2 (nn_of hq4)) gc_X1_44 (xk_X1_join _ (Nat.le_of_ble_eq_true rfl) (Nat.le_of_ble_eq_true rfl)) cr1 ht1 ht2 rfl (Nat.le_of_ble_eq_true rfl) dX1_becomeCut_171 hq4 ?_
            exact g_sub [0, 1, 2, 3, 4] rfl (k_X1_becomeCut_174 hC hO hR hf t ht1 ht2 x1 hx1a hx1b x3 x4 x5 r108 h108 (f_X1_becomeCut_120 t x1 x3 x4 r108 n) ih q4 h)
set_option maxHeartbeats 4000000 in
set_option maxRecDepth 100000 in
theorem k_X1_becomeCut_108 {E : ET} {F : FT} {fo : Option HS} (hC : Cx E F 7 cX1_becomeCut RX1 GT) (hO : Ro F rm_X1_becomeCut) (hR : RV E F fo) (hf : fo ≠ none) (t : Nat) (ht1 : kd t = 1) (ht2 : AL E t) (x1 : Nat) (hx1a : kd x1 = 1) (hx1b : AL E x1) (x3 : Int32) : ∀ (n : Nat) (x4 : Int32) (σ : HS), f_X1_becomeCut_108 t x1 x3 n x4 σ = fo → G E F 108 [(0, .ref (E.2.2.1 t)), (1, .ref (E.2.2.1 x1)), (3, .int x3), (4, .int x4)] [] σ := by
  intro n
  induction n with
  | zero =>
    intro x4 σ h
    exact absurd (h.symm.trans rfl) hf
  | succ n ih =>
    intro x4 σ h
    refine g_iload hC dX1_becomeCut_108 3 rfl ?_
    refine g_aload_n hC dX1_becomeCut_110 rfl 1 rfl ?_
    refine g_getI (k := 5) hC cr1 ui_1 hx1a hx1b (by decide) fl_X1_29 rfl rfl dX1_becomeCut_111 ?_
    refine g_icmp_ge (tgt := 186) hC dX1_becomeCut_114 (by decide) h (fun c114 h => ?_) (fun c114 h => ?_)
    · exact g_vret hC hR dX1_becomeCut_186 h
    · refine g_iconst (v := 0) hC dX1_becomeCut_117 (by decide) ?_
      refine g_istore (lv' := [(5, .int 0), (0, .ref (E.2.2.1 t)), (1, .ref (E.2.2.1 x1)), (3, .int x3), (4, .int x4)]) hC dX1_becomeCut_118 (by decide) rfl ?_
      exact g_sub [1, 2, 3, 4, 0] rfl (k_X1_becomeCut_120 hC hO hR hf t ht1 ht2 x1 hx1a hx1b x3 x4 (f_X1_becomeCut_108 t x1 x3 n) ih FU 0 σ h)
set_option maxHeartbeats 4000000 in
set_option maxRecDepth 100000 in
theorem k_X1_becomeCut_99 {E : ET} {F : FT} {fo : Option HS} (hC : Cx E F 7 cX1_becomeCut RX1 GT) (hO : Ro F rm_X1_becomeCut) (hR : RV E F fo) (hf : fo ≠ none) (t : Nat) (ht1 : kd t = 1) (ht2 : AL E t) (x1 : Nat) (hx1a : kd x1 = 1) (hx1b : AL E x1) (x2 : Nat) (hx2a : kd x2 = 14) (hx2b : AL E x2) (x3 : Int32) (x4 : Int32) (r46 : Int32 → HS → Option HS) (h46 : ∀ (x4 : Int32) (σ : HS), r46 x4 σ = fo → G E F 46 [(0, .ref (E.2.2.1 t)), (1, .ref (E.2.2.1 x1)), (2, .ref (E.2.2.1 x2)), (3, .int x3), (4, .int x4)] [] σ) (σ : HS) (h : f_X1_becomeCut_99 r46 t x1 x2 x3 x4 σ = fo) : G E F 99 [(0, .ref (E.2.2.1 t)), (1, .ref (E.2.2.1 x1)), (2, .ref (E.2.2.1 x2)), (3, .int x3), (4, .int x4)] [] σ := by
    refine g_iinc (v := x4 + 1) (lv' := [(4, .int (x4 + 1)), (0, .ref (E.2.2.1 t)), (1, .ref (E.2.2.1 x1)), (2, .ref (E.2.2.1 x2)), (3, .int x3)]) hC dX1_becomeCut_99 4 rfl rfl (by decide) rfl ?_
    refine g_goto (tgt := 46) hC dX1_becomeCut_102 (by decide) ?_
    exact g_sub [1, 2, 3, 4, 0] rfl (h46 (x4 + 1) σ h)
set_option maxHeartbeats 4000000 in
set_option maxRecDepth 100000 in
theorem k_X1_becomeCut_96 {E : ET} {F : FT} {fo : Option HS} (hC : Cx E F 7 cX1_becomeCut RX1 GT) (hO : Ro F rm_X1_becomeCut) (hR : RV E F fo) (hf : fo ≠ none) (t : Nat) (ht1 : kd t = 1) (ht2 : AL E t) (x1 : Nat) (hx1a : kd x1 = 1) (hx1b : AL E x1) (x2 : Nat) (hx2a : kd x2 = 14) (hx2b : AL E x2) (x3 : Int32) (x4 : Int32) (s0 : Int32) (s1 : Int32) (s2 : Nat) (hs2a : kd s2 = 1) (hs2b : AL E s2) (s3 : Nat) (hs3a : kd s3 = 1) (hs3b : AL E s3) (r46 : Int32 → HS → Option HS) (h46 : ∀ (x4 : Int32) (σ : HS), r46 x4 σ = fo → G E F 46 [(0, .ref (E.2.2.1 t)), (1, .ref (E.2.2.1 x1)), (2, .ref (E.2.2.1 x2)), (3, .int x3), (4, .int x4)] [] σ) (σ : HS) (h : f_X1_becomeCut_96 r46 t x1 x2 x3 x4 s0 s1 s2 s3 σ = fo) : G E F 96 [(0, .ref (E.2.2.1 t)), (1, .ref (E.2.2.1 x1)), (2, .ref (E.2.2.1 x2)), (3, .int x3), (4, .int x4)] [.int s0, .int s1, .ref (E.2.2.1 s2), .ref (E.2.2.1 s3)] σ := by
    obtain ⟨q1, hq1, h⟩ := bd_of h hf
    refine g_cVV (As := [.ref (E.2.2.1 s2), .int s1, .int s0]) hC hO (c_X1_take _ hC.2.2.2.2.2.2.1 s3 hs3a hs3b s2 hs2a hs2b s1 s0 σ (nn_of hq1)) gc_X1_32 (xk_X1_take _ (Nat.le_of_ble_eq_true rfl) (Nat.le_of_ble_eq_true rfl)) cr1 hs3a hs3b rfl (Nat.le_of_ble_eq_true rfl) dX1_becomeCut_96 hq1 ?_
    exact g_sub [0, 1, 2, 3, 4] rfl (k_X1_becomeCut_99 hC hO hR hf t ht1 ht2 x1 hx1a hx1b x2 hx2a hx2b x3 x4 r46 h46 q1 h)
set_option maxHeartbeats 4000000 in
set_option maxRecDepth 100000 in
theorem k_X1_becomeCut_46 {E : ET} {F : FT} {fo : Option HS} (hC : Cx E F 7 cX1_becomeCut RX1 GT) (hO : Ro F rm_X1_becomeCut) (hR : RV E F fo) (hf : fo ≠ none) (t : Nat) (ht1 : kd t = 1) (ht2 : AL E t) (x1 : Nat) (hx1a : kd x1 = 1) (hx1b : AL E x1) (x2 : Nat) (hx2a : kd x2 = 14) (hx2b : AL E x2) (x3 : Int32) : ∀ (n : Nat) (x4 : Int32) (σ : HS), f_X1_becomeCut_46 t x1 x2 x3 n x4 σ = fo → G E F 46 [(0, .ref (E.2.2.1 t)), (1, .ref (E.2.2.1 x1)), (2, .ref (E.2.2.1 x2)), (3, .int x3), (4, .int x4)] [] σ := by
  intro n
  induction n with
  | zero =>
    intro x4 σ h
    exact absurd (h.symm.trans rfl) hf
  | succ n ih =>
    intro x4 σ h
    refine g_iload hC dX1_becomeCut_46 4 rfl ?_
    refine g_aload_n hC dX1_becomeCut_48 rfl 1 rfl ?_
    refine g_getI (k := 5) hC cr1 ui_1 hx1a hx1b (by decide) fl_X1_29 rfl rfl dX1_becomeCut_49 ?_
    refine g_icmp_ge (tgt := 105) hC dX1_becomeCut_52 (by decide) h (fun c52 h => ?_) (fun c52 h => ?_)
    · refine g_iconst (v := 0) hC dX1_becomeCut_105 (by decide) ?_
      refine g_istore (lv' := [(4, .int 0), (0, .ref (E.2.2.1 t)), (1, .ref (E.2.2.1 x1)), (2, .ref (E.2.2.1 x2)), (3, .int x3)]) hC dX1_becomeCut_106 (by decide) rfl ?_
      exact g_sub [1, 2, 4, 0] rfl (k_X1_becomeCut_108 hC hO hR hf t ht1 ht2 x1 hx1a hx1b x3 FU 0 σ h)
    · refine g_aload_n hC dX1_becomeCut_55 rfl 1 rfl ?_
      refine g_iload hC dX1_becomeCut_56 4 rfl ?_
      refine g_aload_n hC dX1_becomeCut_58 rfl 2 rfl ?_
      obtain ⟨q1, hq1, h⟩ := bd_of h hf
      refine g_cVJ (As := [.int x4, .ref (E.2.2.1 x2)]) hC hO (c_X1_product _ hC.2.2.2.2.2.2.1 x1 hx1a hx1b x4 x2 hx2a hx2b σ (nn_of hq1)) gc_X1_36 (xk_X1_product _ (Nat.le_of_ble_eq_true rfl) (Nat.le_of_ble_eq_true rfl)) cr1 hx1a hx1b rfl (Nat.le_of_ble_eq_true rfl) dX1_becomeCut_59 hq1 ?_
      refine g_lstore (lv' := [(5, .long q1.1), (0, .ref (E.2.2.1 t)), (1, .ref (E.2.2.1 x1)), (2, .ref (E.2.2.1 x2)), (3, .int x3), (4, .int x4)]) hC dX1_becomeCut_62 (by decide) rfl ?_
      refine g_aload_n hC dX1_becomeCut_64 rfl 2 rfl ?_
      refine g_getR (cj := 15) (k := 2) hC cr1 ui_1 hx1a hx1b (by decide) fl_X1_19 rfl rfl dX1_becomeCut_65 h hf (fun a2 ea2 ka2 na2 h => ?_)
      refine g_iload hC dX1_becomeCut_68 5 rfl ?_
      refine g_lload hC dX1_becomeCut_70 0 rfl ?_
      refine g_last hC ka2 na2 dX1_becomeCut_72 h hf (fun h => ?_)
      refine g_lload hC dX1_becomeCut_73 0 rfl ?_
      refine g_lconst (v := 0) hC dX1_becomeCut_75 (by decide) ?_
      refine g_lc_lt (tgt := 99) hC dX1_becomeCut_76 dX1_becomeCut_77 (by decide) h (fun c76 h => ?_) (fun c76 h => ?_)
      · exact g_sub [1, 2, 3, 4, 5] rfl (k_X1_becomeCut_99 hC hO hR hf t ht1 ht2 x1 hx1a hx1b x2 hx2a hx2b x3 x4 (f_X1_becomeCut_46 t x1 x2 x3 n) ih (sJ q1.2 a2 x4.toNatClampNeg q1.1) h)
      · refine g_aload_n hC dX1_becomeCut_80 rfl 1 rfl ?_
        refine g_aload_n hC dX1_becomeCut_81 rfl 2 rfl ?_
        refine g_iload hC dX1_becomeCut_82 5 rfl ?_
        refine g_lload hC dX1_becomeCut_84 0 rfl ?_
        refine g_lconst (v := 0) hC dX1_becomeCut_86 (by decide) ?_
        refine g_lc_ne (tgt := 95) hC dX1_becomeCut_87 dX1_becomeCut_88 (by decide) h (fun c87 h => ?_) (fun c87 h => ?_)
        · refine g_iconst (v := 0) hC dX1_becomeCut_95 (by decide) ?_
          exact g_sub [1, 2, 3, 4, 5] rfl (k_X1_becomeCut_96 hC hO hR hf t ht1 ht2 x1 hx1a hx1b x2 hx2a hx2b x3 x4 0 x4 x1 hx1a hx1b t ht1 ht2 (f_X1_becomeCut_46 t x1 x2 x3 n) ih (sJ q1.2 a2 x4.toNatClampNeg q1.1) h)
        · refine g_iload_n hC dX1_becomeCut_91 rfl 4 rfl ?_
          refine g_goto (tgt := 96) hC dX1_becomeCut_92 (by decide) ?_
          exact g_sub [1, 2, 3, 4, 5] rfl (k_X1_becomeCut_96 hC hO hR hf t ht1 ht2 x1 hx1a hx1b x2 hx2a hx2b x3 x4 x3 x4 x1 hx1a hx1b t ht1 ht2 (f_X1_becomeCut_46 t x1 x2 x3 n) ih (sJ q1.2 a2 x4.toNatClampNeg q1.1) h)
set_option maxHeartbeats 4000000 in
set_option maxRecDepth 100000 in
theorem k_X1_becomeCut_19 {E : ET} {F : FT} {fo : Option HS} (hC : Cx E F 7 cX1_becomeCut RX1 GT) (hO : Ro F rm_X1_becomeCut) (hR : RV E F fo) (hf : fo ≠ none) (t : Nat) (ht1 : kd t = 1) (ht2 : AL E t) (x1 : Nat) (hx1a : kd x1 = 1) (hx1b : AL E x1) (x2 : Nat) (hx2a : kd x2 = 14) (hx2b : AL E x2) (s0 : Int32) (σ : HS) (h : f_X1_becomeCut_19 t x1 x2 s0 σ = fo) : G E F 19 [(0, .ref (E.2.2.1 t)), (1, .ref (E.2.2.1 x1)), (2, .ref (E.2.2.1 x2))] [.int s0] σ := by
    refine g_istore_n (lv' := [(3, .int s0), (0, .ref (E.2.2.1 t)), (1, .ref (E.2.2.1 x1)), (2, .ref (E.2.2.1 x2))]) hC dX1_becomeCut_19 rfl (by decide) rfl ?_
    refine g_aload_n hC dX1_becomeCut_20 rfl 1 rfl ?_
    refine g_aload_n hC dX1_becomeCut_21 rfl 2 rfl ?_
    refine g_getI (k := 3) hC cr1 ui_1 hx1a hx1b (by decide) fl_X1_22 rfl rfl dX1_becomeCut_22 ?_
    refine g_putI (k := 3) hC cr1 ui_1 tyX1_ok nmX1 ht1 ht2 (by decide) fl_X1_22 rfl rfl rfl rfl dX1_becomeCut_25 ?_
    refine g_aload_n hC dX1_becomeCut_28 rfl 1 rfl ?_
    refine g_aload_n hC dX1_becomeCut_29 rfl 2 rfl ?_
    refine g_getI (k := 4) hC cr1 ui_1 hx1a hx1b (by decide) fl_X1_26 rfl rfl dX1_becomeCut_30 ?_
    refine g_iconst (v := 1) hC dX1_becomeCut_33 (by decide) ?_
    refine g_iadd hC dX1_becomeCut_34 ?_
    refine g_putI (k := 4) hC cr1 ui_1 tyX1_ok nmX1 ht1 ht2 (by decide) fl_X1_26 rfl rfl rfl rfl dX1_becomeCut_35 ?_
    refine g_aload_n hC dX1_becomeCut_38 rfl 1 rfl ?_
    refine g_iconst (v := 0) hC dX1_becomeCut_39 (by decide) ?_
    refine g_putI (k := 5) hC cr1 ui_1 tyX1_ok nmX1 ht1 ht2 (by decide) fl_X1_29 rfl rfl rfl rfl dX1_becomeCut_40 ?_
    refine g_iconst (v := 0) hC dX1_becomeCut_43 (by decide) ?_
    refine g_istore (lv' := [(4, .int 0), (3, .int s0), (0, .ref (E.2.2.1 t)), (1, .ref (E.2.2.1 x1)), (2, .ref (E.2.2.1 x2))]) hC dX1_becomeCut_44 (by decide) rfl ?_
    exact g_sub [2, 3, 4, 1, 0] rfl (k_X1_becomeCut_46 hC hO hR hf t ht1 ht2 x1 hx1a hx1b x2 hx2a hx2b s0 FU 0 (sI (sI (sI σ t 3 (σ.1 x1 3)) t 4 (((sI σ t 3 (σ.1 x1 3)).1 x1 4) + 1)) t 5 0) h)
set_option maxHeartbeats 4000000 in
set_option maxRecDepth 100000 in
theorem k_X1_becomeCut_0 {E : ET} {F : FT} {fo : Option HS} (hC : Cx E F 7 cX1_becomeCut RX1 GT) (hO : Ro F rm_X1_becomeCut) (hR : RV E F fo) (hf : fo ≠ none) (t : Nat) (ht1 : kd t = 1) (ht2 : AL E t) (x1 : Nat) (hx1a : kd x1 = 1) (hx1b : AL E x1) (x2 : Nat) (hx2a : kd x2 = 14) (hx2b : AL E x2) (σ : HS) (h : f_X1_becomeCut t x1 x2 σ = fo) : G E F 0 [(0, .ref (E.2.2.1 t)), (1, .ref (E.2.2.1 x1)), (2, .ref (E.2.2.1 x2))] [] σ := by
    refine g_aload_n hC dX1_becomeCut_0 rfl 1 rfl ?_
    refine g_getI (k := 4) hC cr1 ui_1 hx1a hx1b (by decide) fl_X1_26 rfl rfl dX1_becomeCut_1 ?_
    refine g_bipush (v := 31) hC dX1_becomeCut_4 (by decide) ?_
    refine g_icmp_ge (tgt := 18) hC dX1_becomeCut_6 (by decide) h (fun c6 h => ?_) (fun c6 h => ?_)
    · refine g_iconst (v := 0) hC dX1_becomeCut_18 (by decide) ?_
      exact g_sub [0, 1, 2] rfl (k_X1_becomeCut_19 hC hO hR hf t ht1 ht2 x1 hx1a hx1b x2 hx2a hx2b 0 σ h)
    · refine g_iconst (v := 1) hC dX1_becomeCut_9 (by decide) ?_
      refine g_aload_n hC dX1_becomeCut_10 rfl 1 rfl ?_
      refine g_getI (k := 4) hC cr1 ui_1 hx1a hx1b (by decide) fl_X1_26 rfl rfl dX1_becomeCut_11 ?_
      refine g_ishl hC dX1_becomeCut_14 ?_
      refine g_goto (tgt := 19) hC dX1_becomeCut_15 (by decide) ?_
      exact g_sub [0, 1, 2] rfl (k_X1_becomeCut_19 hC hO hR hf t ht1 ht2 x1 hx1a hx1b x2 hx2a hx2b ((1 : Int32) <<< ((σ.1 x1 4) &&& 31)) σ h)
theorem xk_X1_becomeCut (R : Room) (h1 : 2 + 1 ≤ R.frames) (h2 : 126 ≤ R.locals) : xw R yX1_becomeCut w_X1_becomeCut GT cX1_becomeCut 7 none rm_X1_becomeCut 2 := ⟨rfl, rfl, rfl, h1, h2, ⟨by decide, by decide⟩, by decide +kernel⟩
theorem c_X1_becomeCut (E : ET) (hE : EO E) (t : Nat) (ht1 : kd t = 1) (ht2 : AL E t) (x1 : Nat) (hx1a : kd x1 = 1) (hx1b : AL E x1) (x2 : Nat) (hx2a : kd x2 = 14) (hx2b : AL E x2) (σ : HS) (hn : f_X1_becomeCut t x1 x2 σ ≠ none) : CoV E yX1_becomeCut w_X1_becomeCut rm_X1_becomeCut [.ref (E.2.2.1 t), .ref (E.2.2.1 x1), .ref (E.2.2.1 x2)] σ (f_X1_becomeCut t x1 x2 σ) := CoV.of (lv := [(0, .ref (E.2.2.1 t)), (1, .ref (E.2.2.1 x1)), (2, .ref (E.2.2.1 x2))]) hE (plainFor_of_name (by decide)) rfl (Nat.le_of_ble_eq_true rfl) rfl (fun F hC hO hR => k_X1_becomeCut_0 hC hO hR hn t ht1 ht2 x1 hx1a hx1b x2 hx2a hx2b σ rfl)
def rm_X1_isBehind : Room := { frames := 1, cells := 0, slots := 0, locals := 34 }
set_option maxHeartbeats 4000000 in
set_option maxRecDepth 100000 in
theorem k_X1_isBehind_47 {E : ET} {F : FT} {fo : Option (Int32 × HS)} (hC : Cx E F 4 cX1_isBehind RX1 GT) (hO : Ro F rm_X1_isBehind) (hR : RI E F .boolean fo) (hf : fo ≠ none) (s0 : Int32) (σ : HS) (h : f_X1_isBehind_47 s0 σ = fo) : G E F 47 [] [.int s0] σ := by
    obtain ⟨hz, h⟩ := zr_of h hf
    exact g_iret hC hR dX1_isBehind_47 hz h
set_option maxHeartbeats 4000000 in
set_option maxRecDepth 100000 in
theorem k_X1_isBehind_2 {E : ET} {F : FT} {fo : Option (Int32 × HS)} (hC : Cx E F 4 cX1_isBehind RX1 GT) (hO : Ro F rm_X1_isBehind) (hR : RI E F .boolean fo) (hf : fo ≠ none) (t : Nat) (ht1 : kd t = 1) (ht2 : AL E t) (x1 : Int32) (x2 : Int32) : ∀ (n : Nat) (x3 : Int32) (σ : HS), f_X1_isBehind_2 t x1 x2 n x3 σ = fo → G E F 2 [(0, .ref (E.2.2.1 t)), (1, .int x1), (2, .int x2), (3, .int x3)] [] σ := by
  intro n
  induction n with
  | zero =>
    intro x3 σ h
    exact absurd (h.symm.trans rfl) hf
  | succ n ih =>
    intro x3 σ h
    refine g_iload_n hC dX1_isBehind_2 rfl 3 rfl ?_
    refine g_aload_n hC dX1_isBehind_3 rfl 0 rfl ?_
    refine g_getI (k := 3) hC cr1 ui_1 ht1 ht2 (by decide) fl_X1_22 rfl rfl dX1_isBehind_4 ?_
    refine g_icmp_ge (tgt := 54) hC dX1_isBehind_7 (by decide) h (fun c7 h => ?_) (fun c7 h => ?_)
    · refine g_iconst (v := 0) hC dX1_isBehind_54 (by decide) ?_
      exact g_iret hC hR dX1_isBehind_55 rfl h
    · refine g_aload_n hC dX1_isBehind_10 rfl 0 rfl ?_
      refine g_iload_n hC dX1_isBehind_11 rfl 1 rfl ?_
      refine g_iload_n hC dX1_isBehind_12 rfl 3 rfl ?_
      obtain ⟨q1, hq1, h⟩ := bd_of h hf
      refine g_cVJ (As := [.int x1, .int x3]) hC hO (c_X1_weight _ hC.2.2.2.2.2.2.1 t ht1 ht2 x1 x3 σ (nn_of hq1)) gc_X1_48 (xk_X1_weight _ (Nat.le_of_ble_eq_true rfl) (Nat.le_of_ble_eq_true rfl)) cr1 ht1 ht2 rfl (Nat.le_of_ble_eq_true rfl) dX1_isBehind_13 hq1 ?_
      refine g_aload_n hC dX1_isBehind_16 rfl 0 rfl ?_
      refine g_iload_n hC dX1_isBehind_17 rfl 2 rfl ?_
      refine g_iload_n hC dX1_isBehind_18 rfl 3 rfl ?_
      obtain ⟨q2, hq2, h⟩ := bd_of h hf
      refine g_cVJ (As := [.int x2, .int x3]) hC hO (c_X1_weight _ hC.2.2.2.2.2.2.1 t ht1 ht2 x2 x3 q1.2 (nn_of hq2)) gc_X1_48 (xk_X1_weight _ (Nat.le_of_ble_eq_true rfl) (Nat.le_of_ble_eq_true rfl)) cr1 ht1 ht2 rfl (Nat.le_of_ble_eq_true rfl) dX1_isBehind_19 hq2 ?_
      refine g_lc_eq (tgt := 48) hC dX1_isBehind_22 dX1_isBehind_23 (by decide) h (fun c22 h => ?_) (fun c22 h => ?_)
      · refine g_iinc (v := x3 + 1) (lv' := [(3, .int (x3 + 1)), (0, .ref (E.2.2.1 t)), (1, .int x1), (2, .int x2)]) hC dX1_isBehind_48 3 rfl rfl (by decide) rfl ?_
        refine g_goto (tgt := 2) hC dX1_isBehind_51 (by decide) ?_
        exact g_sub [1, 2, 3, 0] rfl (ih (x3 + 1) q2.2 h)
      · refine g_aload_n hC dX1_isBehind_26 rfl 0 rfl ?_
        refine g_iload_n hC dX1_isBehind_27 rfl 1 rfl ?_
        refine g_iload_n hC dX1_isBehind_28 rfl 3 rfl ?_
        obtain ⟨q3, hq3, h⟩ := bd_of h hf
        refine g_cVJ (As := [.int x1, .int x3]) hC hO (c_X1_weight _ hC.2.2.2.2.2.2.1 t ht1 ht2 x1 x3 q2.2 (nn_of hq3)) gc_X1_48 (xk_X1_weight _ (Nat.le_of_ble_eq_true rfl) (Nat.le_of_ble_eq_true rfl)) cr1 ht1 ht2 rfl (Nat.le_of_ble_eq_true rfl) dX1_isBehind_29 hq3 ?_
        refine g_aload_n hC dX1_isBehind_32 rfl 0 rfl ?_
        refine g_iload_n hC dX1_isBehind_33 rfl 2 rfl ?_
        refine g_iload_n hC dX1_isBehind_34 rfl 3 rfl ?_
        obtain ⟨q4, hq4, h⟩ := bd_of h hf
        refine g_cVJ (As := [.int x2, .int x3]) hC hO (c_X1_weight _ hC.2.2.2.2.2.2.1 t ht1 ht2 x2 x3 q3.2 (nn_of hq4)) gc_X1_48 (xk_X1_weight _ (Nat.le_of_ble_eq_true rfl) (Nat.le_of_ble_eq_true rfl)) cr1 ht1 ht2 rfl (Nat.le_of_ble_eq_true rfl) dX1_isBehind_35 hq4 ?_
        refine g_lc_le (tgt := 46) hC dX1_isBehind_38 dX1_isBehind_39 (by decide) h (fun c38 h => ?_) (fun c38 h => ?_)
        · refine g_iconst (v := 0) hC dX1_isBehind_46 (by decide) ?_
          exact g_sub [] rfl (k_X1_isBehind_47 hC hO hR hf 0 q4.2 h)
        · refine g_iconst (v := 1) hC dX1_isBehind_42 (by decide) ?_
          refine g_goto (tgt := 47) hC dX1_isBehind_43 (by decide) ?_
          exact g_sub [] rfl (k_X1_isBehind_47 hC hO hR hf 1 q4.2 h)
set_option maxHeartbeats 4000000 in
set_option maxRecDepth 100000 in
theorem k_X1_isBehind_0 {E : ET} {F : FT} {fo : Option (Int32 × HS)} (hC : Cx E F 4 cX1_isBehind RX1 GT) (hO : Ro F rm_X1_isBehind) (hR : RI E F .boolean fo) (hf : fo ≠ none) (t : Nat) (ht1 : kd t = 1) (ht2 : AL E t) (x1 : Int32) (x2 : Int32) (σ : HS) (h : f_X1_isBehind t x1 x2 σ = fo) : G E F 0 [(0, .ref (E.2.2.1 t)), (1, .int x1), (2, .int x2)] [] σ := by
    refine g_iconst (v := 0) hC dX1_isBehind_0 (by decide) ?_
    refine g_istore_n (lv' := [(3, .int 0), (0, .ref (E.2.2.1 t)), (1, .int x1), (2, .int x2)]) hC dX1_isBehind_1 rfl (by decide) rfl ?_
    exact g_sub [1, 2, 3, 0] rfl (k_X1_isBehind_2 hC hO hR hf t ht1 ht2 x1 x2 FU 0 σ h)
theorem xk_X1_isBehind (R : Room) (h1 : 1 + 1 ≤ R.frames) (h2 : 69 ≤ R.locals) : xw R yX1_isBehind w_X1_isBehind GT cX1_isBehind 4 (some .boolean) rm_X1_isBehind 2 := ⟨rfl, rfl, rfl, h1, h2, ⟨by decide, by decide⟩, by decide +kernel⟩
theorem c_X1_isBehind (E : ET) (hE : EO E) (t : Nat) (ht1 : kd t = 1) (ht2 : AL E t) (x1 : Int32) (x2 : Int32) (σ : HS) (hn : f_X1_isBehind t x1 x2 σ ≠ none) : CoI E yX1_isBehind w_X1_isBehind rm_X1_isBehind [.ref (E.2.2.1 t), .int x1, .int x2] σ (f_X1_isBehind t x1 x2 σ) := CoI.of (lv := [(0, .ref (E.2.2.1 t)), (1, .int x1), (2, .int x2)]) hE (plainFor_of_name (by decide)) rfl (Nat.le_of_ble_eq_true rfl) rfl (fun F hC hO hR => k_X1_isBehind_0 hC hO hR hn t ht1 ht2 x1 x2 σ rfl)
def rm_X1_swap : Room := { frames := 1, cells := 0, slots := 0, locals := 34 }
set_option maxHeartbeats 4000000 in
set_option maxRecDepth 100000 in
theorem k_X1_swap_2 {E : ET} {F : FT} {fo : Option HS} (hC : Cx E F 6 cX1_swap RX1 GT) (hO : Ro F rm_X1_swap) (hR : RV E F fo) (hf : fo ≠ none) (t : Nat) (ht1 : kd t = 1) (ht2 : AL E t) (x1 : Int32) (x2 : Int32) : ∀ (n : Nat) (x3 : Int32) (σ : HS), f_X1_swap_2 t x1 x2 n x3 σ = fo → G E F 2 [(0, .ref (E.2.2.1 t)), (1, .int x1), (2, .int x2), (3, .int x3)] [] σ := by
  intro n
  induction n with
  | zero =>
    intro x3 σ h
    exact absurd (h.symm.trans rfl) hf
  | succ n ih =>
    intro x3 σ h
    refine g_iload_n hC dX1_swap_2 rfl 3 rfl ?_
    refine g_iconst (v := 4) hC dX1_swap_3 (by decide) ?_
    refine g_icmp_ge (tgt := 49) hC dX1_swap_4 (by decide) h (fun c4 h => ?_) (fun c4 h => ?_)
    · refine g_aload_n hC dX1_swap_49 rfl 0 rfl ?_
      refine g_getR (cj := 14) (k := 1) hC cr1 ui_1 ht1 ht2 (by decide) fl_X1_15 rfl rfl dX1_swap_50 h hf (fun a1 ea1 ka1 na1 h => ?_)
      refine g_iload_n hC dX1_swap_53 rfl 1 rfl ?_
      refine g_iald hC ka1 na1 dX1_swap_54 h hf (fun h => ?_)
      refine g_istore_n (lv' := [(3, .int (σ.1 a1 x1.toNatClampNeg)), (0, .ref (E.2.2.1 t)), (1, .int x1), (2, .int x2)]) hC dX1_swap_55 rfl (by decide) rfl ?_
      refine g_aload_n hC dX1_swap_56 rfl 1 rfl ?_
      refine g_getR (cj := 14) (k := 1) hC cr1 ui_1 ht1 ht2 (by decide) fl_X1_15 rfl rfl dX1_swap_57 h hf (fun a2 ea2 ka2 na2 h => ?_)
      refine g_iload_n hC dX1_swap_60 rfl 2 rfl ?_
      refine g_aload_n hC dX1_swap_61 rfl 1 rfl ?_
      refine g_getR (cj := 14) (k := 1) hC cr1 ui_1 ht1 ht2 (by decide) fl_X1_15 rfl rfl dX1_swap_62 h hf (fun a3 ea3 ka3 na3 h => ?_)
      refine g_iload_n hC dX1_swap_65 rfl 3 rfl ?_
      refine g_iald hC ka3 na3 dX1_swap_66 h hf (fun h => ?_)
      refine g_iast hC ka2 na2 dX1_swap_67 h hf (fun h => ?_)
      refine g_aload_n hC dX1_swap_68 rfl 1 rfl ?_
      refine g_getR (cj := 14) (k := 1) hC cr1 ui_1 ht1 ht2 (by decide) fl_X1_15 rfl rfl dX1_swap_69 h hf (fun a4 ea4 ka4 na4 h => ?_)
      refine g_iload_n hC dX1_swap_72 rfl 3 rfl ?_
      refine g_iload_n hC dX1_swap_73 rfl 0 rfl ?_
      refine g_iast hC ka4 na4 dX1_swap_74 h hf (fun h => ?_)
      exact g_vret hC hR dX1_swap_75 h
    · refine g_aload_n hC dX1_swap_7 rfl 0 rfl ?_
      refine g_iload_n hC dX1_swap_8 rfl 1 rfl ?_
      refine g_iload_n hC dX1_swap_9 rfl 3 rfl ?_
      obtain ⟨q5, hq5, h⟩ := bd_of h hf
      refine g_cVJ (As := [.int x1, .int x3]) hC hO (c_X1_weight _ hC.2.2.2.2.2.2.1 t ht1 ht2 x1 x3 σ (nn_of hq5)) gc_X1_48 (xk_X1_weight _ (Nat.le_of_ble_eq_true rfl) (Nat.le_of_ble_eq_true rfl)) cr1 ht1 ht2 rfl (Nat.le_of_ble_eq_true rfl) dX1_swap_10 hq5 ?_
      refine g_lstore (lv' := [(4, .long q5.1), (0, .ref (E.2.2.1 t)), (1, .int x1), (2, .int x2), (3, .int x3)]) hC dX1_swap_13 (by decide) rfl ?_
      refine g_aload_n hC dX1_swap_15 rfl 1 rfl ?_
      refine g_getR (cj := 15) (k := 0) hC cr1 ui_1 ht1 ht2 (by decide) fl_X1_9 rfl rfl dX1_swap_16 h hf (fun a6 ea6 ka6 na6 h => ?_)
      refine g_iload_n hC dX1_swap_19 rfl 2 rfl ?_
      refine g_iconst (v := 4) hC dX1_swap_20 (by decide) ?_
      refine g_imul hC dX1_swap_21 ?_
      refine g_iload_n hC dX1_swap_22 rfl 4 rfl ?_
      refine g_iadd hC dX1_swap_23 ?_
      refine g_aload_n hC dX1_swap_24 rfl 1 rfl ?_
      refine g_iload_n hC dX1_swap_25 rfl 3 rfl ?_
      refine g_iload_n hC dX1_swap_26 rfl 4 rfl ?_
      obtain ⟨q7, hq7, h⟩ := bd_of h hf
      refine g_cVJ (As := [.int x2, .int x3]) hC hO (c_X1_weight _ hC.2.2.2.2.2.2.1 t ht1 ht2 x2 x3 q5.2 (nn_of hq7)) gc_X1_48 (xk_X1_weight _ (Nat.le_of_ble_eq_true rfl) (Nat.le_of_ble_eq_true rfl)) cr1 ht1 ht2 rfl (Nat.le_of_ble_eq_true rfl) dX1_swap_27 hq7 ?_
      refine g_last hC ka6 na6 dX1_swap_30 h hf (fun h => ?_)
      refine g_aload_n hC dX1_swap_31 rfl 1 rfl ?_
      refine g_getR (cj := 15) (k := 0) hC cr1 ui_1 ht1 ht2 (by decide) fl_X1_9 rfl rfl dX1_swap_32 h hf (fun a8 ea8 ka8 na8 h => ?_)
      refine g_iload_n hC dX1_swap_35 rfl 3 rfl ?_
      refine g_iconst (v := 4) hC dX1_swap_36 (by decide) ?_
      refine g_imul hC dX1_swap_37 ?_
      refine g_iload_n hC dX1_swap_38 rfl 4 rfl ?_
      refine g_iadd hC dX1_swap_39 ?_
      refine g_lload hC dX1_swap_40 0 rfl ?_
      refine g_last hC ka8 na8 dX1_swap_42 h hf (fun h => ?_)
      refine g_iinc (v := x3 + 1) (lv' := [(3, .int (x3 + 1)), (4, .long q5.1), (0, .ref (E.2.2.1 t)), (1, .int x1), (2, .int x2)]) hC dX1_swap_43 4 rfl rfl (by decide) rfl ?_
      refine g_goto (tgt := 2) hC dX1_swap_46 (by decide) ?_
      exact g_sub [2, 3, 4, 0] rfl (ih (x3 + 1) (sJ (sJ q7.2 a6 ((x1 * 4) + x3).toNatClampNeg q7.1) a8 ((x2 * 4) + x3).toNatClampNeg q5.1) h)
set_option maxHeartbeats 4000000 in
set_option maxRecDepth 100000 in
theorem k_X1_swap_0 {E : ET} {F : FT} {fo : Option HS} (hC : Cx E F 6 cX1_swap RX1 GT) (hO : Ro F rm_X1_swap) (hR : RV E F fo) (hf : fo ≠ none) (t : Nat) (ht1 : kd t = 1) (ht2 : AL E t) (x1 : Int32) (x2 : Int32) (σ : HS) (h : f_X1_swap t x1 x2 σ = fo) : G E F 0 [(0, .ref (E.2.2.1 t)), (1, .int x1), (2, .int x2)] [] σ := by
    refine g_iconst (v := 0) hC dX1_swap_0 (by decide) ?_
    refine g_istore_n (lv' := [(3, .int 0), (0, .ref (E.2.2.1 t)), (1, .int x1), (2, .int x2)]) hC dX1_swap_1 rfl (by decide) rfl ?_
    exact g_sub [1, 2, 3, 0] rfl (k_X1_swap_2 hC hO hR hf t ht1 ht2 x1 x2 FU 0 σ h)
theorem xk_X1_swap (R : Room) (h1 : 1 + 1 ≤ R.frames) (h2 : 71 ≤ R.locals) : xw R yX1_swap w_X1_swap GT cX1_swap 6 none rm_X1_swap 2 := ⟨rfl, rfl, rfl, h1, h2, ⟨by decide, by decide⟩, by decide +kernel⟩
theorem c_X1_swap (E : ET) (hE : EO E) (t : Nat) (ht1 : kd t = 1) (ht2 : AL E t) (x1 : Int32) (x2 : Int32) (σ : HS) (hn : f_X1_swap t x1 x2 σ ≠ none) : CoV E yX1_swap w_X1_swap rm_X1_swap [.ref (E.2.2.1 t), .int x1, .int x2] σ (f_X1_swap t x1 x2 σ) := CoV.of (lv := [(0, .ref (E.2.2.1 t)), (1, .int x1), (2, .int x2)]) hE (plainFor_of_name (by decide)) rfl (Nat.le_of_ble_eq_true rfl) rfl (fun F hC hO hR => k_X1_swap_0 hC hO hR hn t ht1 ht2 x1 x2 σ rfl)
def rm_X1_sort : Room := { frames := 2, cells := 0, slots := 0, locals := 71 }
theorem wc_X1_isBehind : Cond.code yX1_isBehind cX1_isBehind 4 (some .boolean) ∈ GT := gtr_26 _ (List.mem_of_getElem? (i := 8) rfl)
theorem gc_X1_64 : GoodIn GT (wsV RX1 64 RX1 yX1_isBehind w_X1_isBehind) := gi_V (gtr_26 _ (List.mem_of_getElem? (i := 5) rfl)) (gtr_26 _ (List.mem_of_getElem? (i := 6) rfl)) (gtr_26 _ (List.mem_of_getElem? (i := 7) rfl)) (gtr_4 _ (List.mem_of_getElem? (i := 21) rfl)) wc_X1_isBehind
theorem wc_X1_swap : Cond.code yX1_swap cX1_swap 6 none ∈ GT := gtr_26 _ (List.mem_of_getElem? (i := 12) rfl)
theorem gc_X1_67 : GoodIn GT (wsV RX1 67 RX1 yX1_swap w_X1_swap) := gi_V (gtr_26 _ (List.mem_of_getElem? (i := 9) rfl)) (gtr_26 _ (List.mem_of_getElem? (i := 10) rfl)) (gtr_26 _ (List.mem_of_getElem? (i := 11) rfl)) (gtr_4 _ (List.mem_of_getElem? (i := 21) rfl)) wc_X1_swap
set_option maxHeartbeats 4000000 in
set_option maxRecDepth 100000 in
theorem k_X1_sort_41 {E : ET} {F : FT} {fo : Option HS} (hC : Cx E F 3 cX1_sort RX1 GT) (hO : Ro F rm_X1_sort) (hR : RV E F fo) (hf : fo ≠ none) (t : Nat) (ht1 : kd t = 1) (ht2 : AL E t) (x1 : Int32) (r2 : Int32 → HS → Option HS) (h2 : ∀ (x1 : Int32) (σ : HS), r2 x1 σ = fo → G E F 2 [(0, .ref (E.2.2.1 t)), (1, .int x1)] [] σ) (σ : HS) (h : f_X1_sort_41 r2 t x1 σ = fo) : G E F 41 [(0, .ref (E.2.2.1 t)), (1, .int x1)] [] σ := by
    refine g_iinc (v := x1 + 1) (lv' := [(1, .int (x1 + 1)), (0, .ref (E.2.2.1 t))]) hC dX1_sort_41 1 rfl rfl (by decide) rfl ?_
    refine g_goto (tgt := 2) hC dX1_sort_44 (by decide) ?_
    exact g_sub [1, 0] rfl (h2 (x1 + 1) σ h)
set_option maxHeartbeats 4000000 in
set_option maxRecDepth 100000 in
theorem k_X1_sort_12 {E : ET} {F : FT} {fo : Option HS} (hC : Cx E F 3 cX1_sort RX1 GT) (hO : Ro F rm_X1_sort) (hR : RV E F fo) (hf : fo ≠ none) (t : Nat) (ht1 : kd t = 1) (ht2 : AL E t) (x1 : Int32) (r2 : Int32 → HS → Option HS) (h2 : ∀ (x1 : Int32) (σ : HS), r2 x1 σ = fo → G E F 2 [(0, .ref (E.2.2.1 t)), (1, .int x1)] [] σ) : ∀ (n : Nat) (x2 : Int32) (σ : HS), f_X1_sort_12 t x1 r2 n x2 σ = fo → G E F 12 [(0, .ref (E.2.2.1 t)), (1, .int x1), (2, .int x2)] [] σ := by
  intro n
  induction n with
  | zero =>
    intro x2 σ h
    exact absurd (h.symm.trans rfl) hf
  | succ n ih =>
    intro x2 σ h
    refine g_iload_n hC dX1_sort_12 rfl 2 rfl ?_
    refine g_if_le (tgt := 41) hC dX1_sort_13 (by decide) h (fun c13 h => ?_) (fun c13 h => ?_)
    · exact g_sub [0, 1] rfl (k_X1_sort_41 hC hO hR hf t ht1 ht2 x1 r2 h2 σ h)
    · refine g_aload_n hC dX1_sort_16 rfl 0 rfl ?_
      refine g_iload_n hC dX1_sort_17 rfl 2 rfl ?_
      refine g_iconst (v := 1) hC dX1_sort_18 (by decide) ?_
      refine g_isub hC dX1_sort_19 ?_
      refine g_iload_n hC dX1_sort_20 rfl 2 rfl ?_
      obtain ⟨q1, hq1, h⟩ := bd_of h hf
      refine g_cVI (As := [.int (x2 - 1), .int x2]) hC hO (c_X1_isBehind _ hC.2.2.2.2.2.2.1 t ht1 ht2 (x2 - 1) x2 σ (nn_of hq1)) gc_X1_64 (xk_X1_isBehind _ (Nat.le_of_ble_eq_true rfl) (Nat.le_of_ble_eq_true rfl)) cr1 ht1 ht2 rfl (Nat.le_of_ble_eq_true rfl) dX1_sort_21 hq1 ?_
      refine g_if_eq (tgt := 41) hC dX1_sort_24 (by decide) h (fun c24 h => ?_) (fun c24 h => ?_)
      · exact g_sub [0, 1] rfl (k_X1_sort_41 hC hO hR hf t ht1 ht2 x1 r2 h2 q1.2 h)
      · refine g_aload_n hC dX1_sort_27 rfl 0 rfl ?_
        refine g_iload_n hC dX1_sort_28 rfl 2 rfl ?_
        refine g_iconst (v := 1) hC dX1_sort_29 (by decide) ?_
        refine g_isub hC dX1_sort_30 ?_
        refine g_iload_n hC dX1_sort_31 rfl 2 rfl ?_
        obtain ⟨q2, hq2, h⟩ := bd_of h hf
        refine g_cVV (As := [.int (x2 - 1), .int x2]) hC hO (c_X1_swap _ hC.2.2.2.2.2.2.1 t ht1 ht2 (x2 - 1) x2 q1.2 (nn_of hq2)) gc_X1_67 (xk_X1_swap _ (Nat.le_of_ble_eq_true rfl) (Nat.le_of_ble_eq_true rfl)) cr1 ht1 ht2 rfl (Nat.le_of_ble_eq_true rfl) dX1_sort_32 hq2 ?_
        refine g_iinc (v := x2 + (-1)) (lv' := [(2, .int (x2 + (-1))), (0, .ref (E.2.2.1 t)), (1, .int x1)]) hC dX1_sort_35 2 rfl rfl (by decide) rfl ?_
        refine g_goto (tgt := 12) hC dX1_sort_38 (by decide) ?_
        exact g_sub [1, 2, 0] rfl (ih (x2 + (-1)) q2 h)
set_option maxHeartbeats 4000000 in
set_option maxRecDepth 100000 in
theorem k_X1_sort_2 {E : ET} {F : FT} {fo : Option HS} (hC : Cx E F 3 cX1_sort RX1 GT) (hO : Ro F rm_X1_sort) (hR : RV E F fo) (hf : fo ≠ none) (t : Nat) (ht1 : kd t = 1) (ht2 : AL E t) : ∀ (n : Nat) (x1 : Int32) (σ : HS), f_X1_sort_2 t n x1 σ = fo → G E F 2 [(0, .ref (E.2.2.1 t)), (1, .int x1)] [] σ := by
  intro n
  induction n with
  | zero =>
    intro x1 σ h
    exact absurd (h.symm.trans rfl) hf
  | succ n ih =>
    intro x1 σ h
    refine g_iload_n hC dX1_sort_2 rfl 1 rfl ?_
    refine g_aload_n hC dX1_sort_3 rfl 0 rfl ?_
    refine g_getI (k := 5) hC cr1 ui_1 ht1 ht2 (by decide) fl_X1_29 rfl rfl dX1_sort_4 ?_
    refine g_icmp_ge (tgt := 47) hC dX1_sort_7 (by decide) h (fun c7 h => ?_) (fun c7 h => ?_)
    · exact g_vret hC hR dX1_sort_47 h
    · refine g_iload_n hC dX1_sort_10 rfl 1 rfl ?_
      refine g_istore_n (lv' := [(2, .int x1), (0, .ref (E.2.2.1 t)), (1, .int x1)]) hC dX1_sort_11 rfl (by decide) rfl ?_
      exact g_sub [1, 2, 0] rfl (k_X1_sort_12 hC hO hR hf t ht1 ht2 x1 (f_X1_sort_2 t n) ih FU x1 σ h)
set_option maxHeartbeats 4000000 in
set_option maxRecDepth 100000 in
theorem k_X1_sort_0 {E : ET} {F : FT} {fo : Option HS} (hC : Cx E F 3 cX1_sort RX1 GT) (hO : Ro F rm_X1_sort) (hR : RV E F fo) (hf : fo ≠ none) (t : Nat) (ht1 : kd t = 1) (ht2 : AL E t) (σ : HS) (h : f_X1_sort t σ = fo) : G E F 0 [(0, .ref (E.2.2.1 t))] [] σ := by
    refine g_iconst (v := 1) hC dX1_sort_0 (by decide) ?_
    refine g_istore_n (lv' := [(1, .int 1), (0, .ref (E.2.2.1 t))]) hC dX1_sort_1 rfl (by decide) rfl ?_
    exact g_sub [1, 0] rfl (k_X1_sort_2 hC hO hR hf t ht1 ht2 FU 1 σ h)
theorem xk_X1_sort (R : Room) (h1 : 2 + 1 ≤ R.frames) (h2 : 105 ≤ R.locals) : xw R yX1_sort w_X1_sort GT cX1_sort 3 none rm_X1_sort 0 := ⟨rfl, rfl, rfl, h1, h2, ⟨by decide, by decide⟩, by decide +kernel⟩
theorem c_X1_sort (E : ET) (hE : EO E) (t : Nat) (ht1 : kd t = 1) (ht2 : AL E t) (σ : HS) (hn : f_X1_sort t σ ≠ none) : CoV E yX1_sort w_X1_sort rm_X1_sort [.ref (E.2.2.1 t)] σ (f_X1_sort t σ) := CoV.of (lv := [(0, .ref (E.2.2.1 t))]) hE (plainFor_of_name (by decide)) rfl (Nat.le_of_ble_eq_true rfl) rfl (fun F hC hO hR => k_X1_sort_0 hC hO hR hn t ht1 ht2 σ rfl)
def rm_X1_keeps : Room := { frames := 1, cells := 0, slots := 0, locals := 37 }
set_option maxHeartbeats 4000000 in
set_option maxRecDepth 100000 in
theorem k_X1_keeps_2 {E : ET} {F : FT} {fo : Option (Int32 × HS)} (hC : Cx E F 3 cX1_keeps RX1 GT) (hO : Ro F rm_X1_keeps) (hR : RI E F .boolean fo) (hf : fo ≠ none) (t : Nat) (ht1 : kd t = 1) (ht2 : AL E t) (x1 : Nat) (hx1a : kd x1 = 14) (hx1b : AL E x1) : ∀ (n : Nat) (x2 : Int32) (σ : HS), f_X1_keeps_2 t x1 n x2 σ = fo → G E F 2 [(0, .ref (E.2.2.1 t)), (1, .ref (E.2.2.1 x1)), (2, .int x2)] [] σ := by
  intro n
  induction n with
  | zero =>
    intro x2 σ h
    exact absurd (h.symm.trans rfl) hf
  | succ n ih =>
    intro x2 σ h
    refine g_iload_n hC dX1_keeps_2 rfl 2 rfl ?_
    refine g_aload_n hC dX1_keeps_3 rfl 0 rfl ?_
    refine g_getI (k := 5) hC cr1 ui_1 ht1 ht2 (by decide) fl_X1_29 rfl rfl dX1_keeps_4 ?_
    refine g_icmp_ge (tgt := 29) hC dX1_keeps_7 (by decide) h (fun c7 h => ?_) (fun c7 h => ?_)
    · refine g_iconst (v := 1) hC dX1_keeps_29 (by decide) ?_
      exact g_iret hC hR dX1_keeps_30 rfl h
    · refine g_aload_n hC dX1_keeps_10 rfl 0 rfl ?_
      refine g_iload_n hC dX1_keeps_11 rfl 2 rfl ?_
      refine g_aload_n hC dX1_keeps_12 rfl 1 rfl ?_
      obtain ⟨q1, hq1, h⟩ := bd_of h hf
      refine g_cVJ (As := [.int x2, .ref (E.2.2.1 x1)]) hC hO (c_X1_product _ hC.2.2.2.2.2.2.1 t ht1 ht2 x2 x1 hx1a hx1b σ (nn_of hq1)) gc_X1_36 (xk_X1_product _ (Nat.le_of_ble_eq_true rfl) (Nat.le_of_ble_eq_true rfl)) cr1 ht1 ht2 rfl (Nat.le_of_ble_eq_true rfl) dX1_keeps_13 hq1 ?_
      refine g_lconst (v := 0) hC dX1_keeps_16 (by decide) ?_
      refine g_lc_ge (tgt := 23) hC dX1_keeps_17 dX1_keeps_18 (by decide) h (fun c17 h => ?_) (fun c17 h => ?_)
      · refine g_iinc (v := x2 + 1) (lv' := [(2, .int (x2 + 1)), (0, .ref (E.2.2.1 t)), (1, .ref (E.2.2.1 x1))]) hC dX1_keeps_23 2 rfl rfl (by decide) rfl ?_
        refine g_goto (tgt := 2) hC dX1_keeps_26 (by decide) ?_
        exact g_sub [1, 2, 0] rfl (ih (x2 + 1) q1.2 h)
      · refine g_iconst (v := 0) hC dX1_keeps_21 (by decide) ?_
        exact g_iret hC hR dX1_keeps_22 rfl h
set_option maxHeartbeats 4000000 in
set_option maxRecDepth 100000 in
theorem k_X1_keeps_0 {E : ET} {F : FT} {fo : Option (Int32 × HS)} (hC : Cx E F 3 cX1_keeps RX1 GT) (hO : Ro F rm_X1_keeps) (hR : RI E F .boolean fo) (hf : fo ≠ none) (t : Nat) (ht1 : kd t = 1) (ht2 : AL E t) (x1 : Nat) (hx1a : kd x1 = 14) (hx1b : AL E x1) (σ : HS) (h : f_X1_keeps t x1 σ = fo) : G E F 0 [(0, .ref (E.2.2.1 t)), (1, .ref (E.2.2.1 x1))] [] σ := by
    refine g_iconst (v := 0) hC dX1_keeps_0 (by decide) ?_
    refine g_istore_n (lv' := [(2, .int 0), (0, .ref (E.2.2.1 t)), (1, .ref (E.2.2.1 x1))]) hC dX1_keeps_1 rfl (by decide) rfl ?_
    exact g_sub [1, 2, 0] rfl (k_X1_keeps_2 hC hO hR hf t ht1 ht2 x1 hx1a hx1b FU 0 σ h)
theorem xk_X1_keeps (R : Room) (h1 : 1 + 1 ≤ R.frames) (h2 : 71 ≤ R.locals) : xw R yX1_keeps w_X1_keeps GT cX1_keeps 3 (some .boolean) rm_X1_keeps 1 := ⟨rfl, rfl, rfl, h1, h2, ⟨by decide, by decide⟩, by decide +kernel⟩
theorem c_X1_keeps (E : ET) (hE : EO E) (t : Nat) (ht1 : kd t = 1) (ht2 : AL E t) (x1 : Nat) (hx1a : kd x1 = 14) (hx1b : AL E x1) (σ : HS) (hn : f_X1_keeps t x1 σ ≠ none) : CoI E yX1_keeps w_X1_keeps rm_X1_keeps [.ref (E.2.2.1 t), .ref (E.2.2.1 x1)] σ (f_X1_keeps t x1 σ) := CoI.of (lv := [(0, .ref (E.2.2.1 t)), (1, .ref (E.2.2.1 x1))]) hE (plainFor_of_name (by decide)) rfl (Nat.le_of_ble_eq_true rfl) rfl (fun F hC hO hR => k_X1_keeps_0 hC hO hR hn t ht1 ht2 x1 hx1a hx1b σ rfl)
def rm_X1_impliesWith : Room := { frames := 1, cells := 0, slots := 0, locals := 37 }
set_option maxHeartbeats 4000000 in
set_option maxRecDepth 100000 in
theorem k_X1_impliesWith_155 {E : ET} {F : FT} {fo : Option (Int32 × HS)} (hC : Cx E F 16 cX1_impliesWith RX1 GT) (hO : Ro F rm_X1_impliesWith) (hR : RI E F .boolean fo) (hf : fo ≠ none) (s0 : Int32) (σ : HS) (h : f_X1_impliesWith_155 s0 σ = fo) : G E F 155 [] [.int s0] σ := by
    obtain ⟨hz, h⟩ := zr_of h hf
    exact g_iret hC hR dX1_impliesWith_155 hz h
set_option maxHeartbeats 4000000 in
set_option maxRecDepth 100000 in
theorem k_X1_impliesWith_150 {E : ET} {F : FT} {fo : Option (Int32 × HS)} (hC : Cx E F 16 cX1_impliesWith RX1 GT) (hO : Ro F rm_X1_impliesWith) (hR : RI E F .boolean fo) (hf : fo ≠ none) (σ : HS) (h : f_X1_impliesWith_150 σ = fo) : G E F 150 [] [] σ := by
    refine g_iconst (v := 1) hC dX1_impliesWith_150 (by decide) ?_
    refine g_goto (tgt := 155) hC dX1_impliesWith_151 (by decide) ?_
    exact g_sub [] rfl (k_X1_impliesWith_155 hC hO hR hf 1 σ h)
set_option maxHeartbeats 4000000 in
set_option maxRecDepth 100000 in
theorem k_X1_impliesWith_124 {E : ET} {F : FT} {fo : Option (Int32 × HS)} (hC : Cx E F 16 cX1_impliesWith RX1 GT) (hO : Ro F rm_X1_impliesWith) (hR : RI E F .boolean fo) (hf : fo ≠ none) (t : Nat) (ht1 : kd t = 1) (ht2 : AL E t) (x1 : Nat) (hx1a : kd x1 = 14) (hx1b : AL E x1) (x2 : Nat) (hx2a : kd x2 = 14) (hx2b : AL E x2) (x3 : Int64) (x5 : Int64) (x7 : Int64) (x9 : Int64) (x11 : Int32) (r14 : Int64 → Int64 → Int64 → Int64 → Int32 → HS → Option (Int32 × HS)) (h14 : ∀ (x3 : Int64) (x5 : Int64) (x7 : Int64) (x9 : Int64) (x11 : Int32) (σ : HS), r14 x3 x5 x7 x9 x11 σ = fo → G E F 14 [(0, .ref (E.2.2.1 t)), (1, .ref (E.2.2.1 x1)), (2, .ref (E.2.2.1 x2)), (3, .long x3), (5, .long x5), (7, .long x7), (9, .long x9), (11, .int x11)] [] σ) (σ : HS) (h : f_X1_impliesWith_124 r14 t x1 x2 x3 x5 x7 x9 x11 σ = fo) : G E F 124 [(0, .ref (E.2.2.1 t)), (1, .ref (E.2.2.1 x1)), (2, .ref (E.2.2.1 x2)), (3, .long x3), (5, .long x5), (7, .long x7), (9, .long x9), (11, .int x11)] [] σ := by
    refine g_iinc (v := x11 + 1) (lv' := [(11, .int (x11 + 1)), (0, .ref (E.2.2.1 t)), (1, .ref (E.2.2.1 x1)), (2, .ref (E.2.2.1 x2)), (3, .long x3), (5, .long x5), (7, .long x7), (9, .long x9)]) hC dX1_impliesWith_124 7 rfl rfl (by decide) rfl ?_
    refine g_goto (tgt := 14) hC dX1_impliesWith_127 (by decide) ?_
    exact g_sub [1, 2, 3, 4, 5, 6, 7, 0] rfl (h14 x3 x5 x7 x9 (x11 + 1) σ h)
set_option maxHeartbeats 4000000 in
set_option maxRecDepth 100000 in
theorem k_X1_impliesWith_91 {E : ET} {F : FT} {fo : Option (Int32 × HS)} (hC : Cx E F 16 cX1_impliesWith RX1 GT) (hO : Ro F rm_X1_impliesWith) (hR : RI E F .boolean fo) (hf : fo ≠ none) (t : Nat) (ht1 : kd t = 1) (ht2 : AL E t) (x1 : Nat) (hx1a : kd x1 = 14) (hx1b : AL E x1) (x2 : Nat) (hx2a : kd x2 = 14) (hx2b : AL E x2) (x3 : Int64) (x5 : Int64) (x7 : Int64) (x9 : Int64) (x11 : Int32) (x12 : Int64) (x14 : Int64) (r14 : Int64 → Int64 → Int64 → Int64 → Int32 → HS → Option (Int32 × HS)) (h14 : ∀ (x3 : Int64) (x5 : Int64) (x7 : Int64) (x9 : Int64) (x11 : Int32) (σ : HS), r14 x3 x5 x7 x9 x11 σ = fo → G E F 14 [(0, .ref (E.2.2.1 t)), (1, .ref (E.2.2.1 x1)), (2, .ref (E.2.2.1 x2)), (3, .long x3), (5, .long x5), (7, .long x7), (9, .long x9), (11, .int x11)] [] σ) (σ : HS) (h : f_X1_impliesWith_91 r14 t x1 x2 x3 x5 x7 x9 x11 x12 x14 σ = fo) : G E F 91 [(0, .ref (E.2.2.1 t)), (1, .ref (E.2.2.1 x1)), (2, .ref (E.2.2.1 x2)), (3, .long x3), (5, .long x5), (7, .long x7), (9, .long x9), (11, .int x11), (12, .long x12), (14, .long x14)] [] σ := by
    refine g_lload hC dX1_impliesWith_91 8 rfl ?_
    refine g_lconst (v := 0) hC dX1_impliesWith_93 (by decide) ?_
    refine g_lc_ge (tgt := 124) hC dX1_impliesWith_94 dX1_impliesWith_95 (by decide) h (fun c94 h => ?_) (fun c94 h => ?_)
    · exact g_sub [0, 1, 2, 3, 4, 5, 6, 7] rfl (k_X1_impliesWith_124 hC hO hR hf t ht1 ht2 x1 hx1a hx1b x2 hx2a hx2b x3 x5 x7 x9 x11 r14 h14 σ h)
    · refine g_lload hC dX1_impliesWith_98 9 rfl ?_
      refine g_lneg hC dX1_impliesWith_100 ?_
      refine g_lload hC dX1_impliesWith_101 6 rfl ?_
      refine g_lmul hC dX1_impliesWith_103 ?_
      refine g_lload hC dX1_impliesWith_104 5 rfl ?_
      refine g_lload hC dX1_impliesWith_106 8 rfl ?_
      refine g_lneg hC dX1_impliesWith_108 ?_
      refine g_lmul hC dX1_impliesWith_109 ?_
      refine g_lc_le (tgt := 124) hC dX1_impliesWith_110 dX1_impliesWith_111 (by decide) h (fun c110 h => ?_) (fun c110 h => ?_)
      · exact g_sub [0, 1, 2, 3, 4, 5, 6, 7] rfl (k_X1_impliesWith_124 hC hO hR hf t ht1 ht2 x1 hx1a hx1b x2 hx2a hx2b x3 x5 x7 x9 x11 r14 h14 σ h)
      · refine g_lload hC dX1_impliesWith_114 9 rfl ?_
        refine g_lneg hC dX1_impliesWith_116 ?_
        refine g_lstore (lv' := [(7, .long (-x14)), (0, .ref (E.2.2.1 t)), (1, .ref (E.2.2.1 x1)), (2, .ref (E.2.2.1 x2)), (3, .long x3), (5, .long x5), (9, .long x9), (11, .int x11), (12, .long x12), (14, .long x14)]) hC dX1_impliesWith_117 (by decide) rfl ?_
        refine g_lload hC dX1_impliesWith_119 8 rfl ?_
        refine g_lneg hC dX1_impliesWith_121 ?_
        refine g_lstore (lv' := [(9, .long (-x12)), (7, .long (-x14)), (0, .ref (E.2.2.1 t)), (1, .ref (E.2.2.1 x1)), (2, .ref (E.2.2.1 x2)), (3, .long x3), (5, .long x5), (11, .int x11), (12, .long x12), (14, .long x14)]) hC dX1_impliesWith_122 (by decide) rfl ?_
        exact g_sub [2, 3, 4, 5, 6, 1, 0, 7] rfl (k_X1_impliesWith_124 hC hO hR hf t ht1 ht2 x1 hx1a hx1b x2 hx2a hx2b x3 x5 (-x14) (-x12) x11 r14 h14 σ h)
set_option maxHeartbeats 4000000 in
set_option maxRecDepth 100000 in
theorem k_X1_impliesWith_84 {E : ET} {F : FT} {fo : Option (Int32 × HS)} (hC : Cx E F 16 cX1_impliesWith RX1 GT) (hO : Ro F rm_X1_impliesWith) (hR : RI E F .boolean fo) (hf : fo ≠ none) (t : Nat) (ht1 : kd t = 1) (ht2 : AL E t) (x1 : Nat) (hx1a : kd x1 = 14) (hx1b : AL E x1) (x2 : Nat) (hx2a : kd x2 = 14) (hx2b : AL E x2) (x7 : Int64) (x9 : Int64) (x11 : Int32) (x12 : Int64) (x14 : Int64) (r14 : Int64 → Int64 → Int64 → Int64 → Int32 → HS → Option (Int32 × HS)) (h14 : ∀ (x3 : Int64) (x5 : Int64) (x7 : Int64) (x9 : Int64) (x11 : Int32) (σ : HS), r14 x3 x5 x7 x9 x11 σ = fo → G E F 14 [(0, .ref (E.2.2.1 t)), (1, .ref (E.2.2.1 x1)), (2, .ref (E.2.2.1 x2)), (3, .long x3), (5, .long x5), (7, .long x7), (9, .long x9), (11, .int x11)] [] σ) (σ : HS) (h : f_X1_impliesWith_84 r14 t x1 x2 x7 x9 x11 x12 x14 σ = fo) : G E F 84 [(0, .ref (E.2.2.1 t)), (1, .ref (E.2.2.1 x1)), (2, .ref (E.2.2.1 x2)), (7, .long x7), (9, .long x9), (11, .int x11), (12, .long x12), (14, .long x14)] [] σ := by
    refine g_lload hC dX1_impliesWith_84 7 rfl ?_
    refine g_lstore_n (lv' := [(3, .long x14), (0, .ref (E.2.2.1 t)), (1, .ref (E.2.2.1 x1)), (2, .ref (E.2.2.1 x2)), (7, .long x7), (9, .long x9), (11, .int x11), (12, .long x12), (14, .long x14)]) hC dX1_impliesWith_86 rfl (by decide) rfl ?_
    refine g_lload hC dX1_impliesWith_87 7 rfl ?_
    refine g_lstore (lv' := [(5, .long x12), (3, .long x14), (0, .ref (E.2.2.1 t)), (1, .ref (E.2.2.1 x1)), (2, .ref (E.2.2.1 x2)), (7, .long x7), (9, .long x9), (11, .int x11), (12, .long x12), (14, .long x14)]) hC dX1_impliesWith_89 (by decide) rfl ?_
    exact g_sub [2, 3, 4, 1, 0, 5, 6, 7, 8, 9] rfl (k_X1_impliesWith_91 hC hO hR hf t ht1 ht2 x1 hx1a hx1b x2 hx2a hx2b x14 x12 x7 x9 x11 x12 x14 r14 h14 σ h)
set_option maxHeartbeats 4000000 in
set_option maxRecDepth 100000 in
theorem k_X1_impliesWith_57 {E : ET} {F : FT} {fo : Option (Int32 × HS)} (hC : Cx E F 16 cX1_impliesWith RX1 GT) (hO : Ro F rm_X1_impliesWith) (hR : RI E F .boolean fo) (hf : fo ≠ none) (t : Nat) (ht1 : kd t = 1) (ht2 : AL E t) (x1 : Nat) (hx1a : kd x1 = 14) (hx1b : AL E x1) (x2 : Nat) (hx2a : kd x2 = 14) (hx2b : AL E x2) (x3 : Int64) (x5 : Int64) (x7 : Int64) (x9 : Int64) (x11 : Int32) (x12 : Int64) (x14 : Int64) (r14 : Int64 → Int64 → Int64 → Int64 → Int32 → HS → Option (Int32 × HS)) (h14 : ∀ (x3 : Int64) (x5 : Int64) (x7 : Int64) (x9 : Int64) (x11 : Int32) (σ : HS), r14 x3 x5 x7 x9 x11 σ = fo → G E F 14 [(0, .ref (E.2.2.1 t)), (1, .ref (E.2.2.1 x1)), (2, .ref (E.2.2.1 x2)), (3, .long x3), (5, .long x5), (7, .long x7), (9, .long x9), (11, .int x11)] [] σ) (σ : HS) (h : f_X1_impliesWith_57 r14 t x1 x2 x3 x5 x7 x9 x11 x12 x14 σ = fo) : G E F 57 [(0, .ref (E.2.2.1 t)), (1, .ref (E.2.2.1 x1)), (2, .ref (E.2.2.1 x2)), (3, .long x3), (5, .long x5), (7, .long x7), (9, .long x9), (11, .int x11), (12, .long x12), (14, .long x14)] [] σ := by
    refine g_lload hC dX1_impliesWith_57 8 rfl ?_
    refine g_lconst (v := 0) hC dX1_impliesWith_59 (by decide) ?_
    refine g_lc_le (tgt := 91) hC dX1_impliesWith_60 dX1_impliesWith_61 (by decide) h (fun c60 h => ?_) (fun c60 h => ?_)
    · exact g_sub [0, 1, 2, 3, 4, 5, 6, 7, 8, 9] rfl (k_X1_impliesWith_91 hC hO hR hf t ht1 ht2 x1 hx1a hx1b x2 hx2a hx2b x3 x5 x7 x9 x11 x12 x14 r14 h14 σ h)
    · refine g_lload hC dX1_impliesWith_64 4 rfl ?_
      refine g_lconst (v := 0) hC dX1_impliesWith_66 (by decide) ?_
      refine g_lc_eq (tgt := 84) hC dX1_impliesWith_67 dX1_impliesWith_68 (by decide) h (fun c67 h => ?_) (fun c67 h => ?_)
      · exact g_sub [0, 1, 2, 5, 6, 7, 8, 9] rfl (k_X1_impliesWith_84 hC hO hR hf t ht1 ht2 x1 hx1a hx1b x2 hx2a hx2b x7 x9 x11 x12 x14 r14 h14 σ h)
      · refine g_lload hC dX1_impliesWith_71 9 rfl ?_
        refine g_lload hC dX1_impliesWith_73 4 rfl ?_
        refine g_lmul hC dX1_impliesWith_75 ?_
        refine g_lload_n hC dX1_impliesWith_76 rfl 3 rfl ?_
        refine g_lload hC dX1_impliesWith_77 8 rfl ?_
        refine g_lmul hC dX1_impliesWith_79 ?_
        refine g_lc_ge (tgt := 91) hC dX1_impliesWith_80 dX1_impliesWith_81 (by decide) h (fun c80 h => ?_) (fun c80 h => ?_)
        · exact g_sub [0, 1, 2, 3, 4, 5, 6, 7, 8, 9] rfl (k_X1_impliesWith_91 hC hO hR hf t ht1 ht2 x1 hx1a hx1b x2 hx2a hx2b x3 x5 x7 x9 x11 x12 x14 r14 h14 σ h)
        · exact g_sub [0, 1, 2, 5, 6, 7, 8, 9] rfl (k_X1_impliesWith_84 hC hO hR hf t ht1 ht2 x1 hx1a hx1b x2 hx2a hx2b x7 x9 x11 x12 x14 r14 h14 σ h)
set_option maxHeartbeats 4000000 in
set_option maxRecDepth 100000 in
theorem k_X1_impliesWith_14 {E : ET} {F : FT} {fo : Option (Int32 × HS)} (hC : Cx E F 16 cX1_impliesWith RX1 GT) (hO : Ro F rm_X1_impliesWith) (hR : RI E F .boolean fo) (hf : fo ≠ none) (t : Nat) (ht1 : kd t = 1) (ht2 : AL E t) (x1 : Nat) (hx1a : kd x1 = 14) (hx1b : AL E x1) (x2 : Nat) (hx2a : kd x2 = 14) (hx2b : AL E x2) : ∀ (n : Nat) (x3 : Int64) (x5 : Int64) (x7 : Int64) (x9 : Int64) (x11 : Int32) (σ : HS), f_X1_impliesWith_14 t x1 x2 n x3 x5 x7 x9 x11 σ = fo → G E F 14 [(0, .ref (E.2.2.1 t)), (1, .ref (E.2.2.1 x1)), (2, .ref (E.2.2.1 x2)), (3, .long x3), (5, .long x5), (7, .long x7), (9, .long x9), (11, .int x11)] [] σ := by
  intro n
  induction n with
  | zero =>
    intro x3 x5 x7 x9 x11 σ h
    exact absurd (h.symm.trans rfl) hf
  | succ n ih =>
    intro x3 x5 x7 x9 x11 σ h
    refine g_iload hC dX1_impliesWith_14 7 rfl ?_
    refine g_aload_n hC dX1_impliesWith_16 rfl 0 rfl ?_
    refine g_getI (k := 5) hC cr1 ui_1 ht1 ht2 (by decide) fl_X1_29 rfl rfl dX1_impliesWith_17 ?_
    refine g_icmp_ge (tgt := 130) hC dX1_impliesWith_20 (by decide) h (fun c20 h => ?_) (fun c20 h => ?_)
    · refine g_lload hC dX1_impliesWith_130 4 rfl ?_
      refine g_lconst (v := 0) hC dX1_impliesWith_132 (by decide) ?_
      refine g_lc_eq (tgt := 150) hC dX1_impliesWith_133 dX1_impliesWith_134 (by decide) h (fun c133 h => ?_) (fun c133 h => ?_)
      · exact g_sub [] rfl (k_X1_impliesWith_150 hC hO hR hf σ h)
      · refine g_lload hC dX1_impliesWith_137 5 rfl ?_
        refine g_lload hC dX1_impliesWith_139 4 rfl ?_
        refine g_lmul hC dX1_impliesWith_141 ?_
        refine g_lload_n hC dX1_impliesWith_142 rfl 3 rfl ?_
        refine g_lload hC dX1_impliesWith_143 6 rfl ?_
        refine g_lmul hC dX1_impliesWith_145 ?_
        refine g_lc_gt (tgt := 154) hC dX1_impliesWith_146 dX1_impliesWith_147 (by decide) h (fun c146 h => ?_) (fun c146 h => ?_)
        · refine g_iconst (v := 0) hC dX1_impliesWith_154 (by decide) ?_
          exact g_sub [] rfl (k_X1_impliesWith_155 hC hO hR hf 0 σ h)
        · exact g_sub [] rfl (k_X1_impliesWith_150 hC hO hR hf σ h)
    · refine g_aload_n hC dX1_impliesWith_23 rfl 0 rfl ?_
      refine g_iload hC dX1_impliesWith_24 7 rfl ?_
      refine g_aload_n hC dX1_impliesWith_26 rfl 1 rfl ?_
      obtain ⟨q1, hq1, h⟩ := bd_of h hf
      refine g_cVJ (As := [.int x11, .ref (E.2.2.1 x1)]) hC hO (c_X1_product _ hC.2.2.2.2.2.2.1 t ht1 ht2 x11 x1 hx1a hx1b σ (nn_of hq1)) gc_X1_36 (xk_X1_product _ (Nat.le_of_ble_eq_true rfl) (Nat.le_of_ble_eq_true rfl)) cr1 ht1 ht2 rfl (Nat.le_of_ble_eq_true rfl) dX1_impliesWith_27 hq1 ?_
      refine g_lstore (lv' := [(12, .long q1.1), (0, .ref (E.2.2.1 t)), (1, .ref (E.2.2.1 x1)), (2, .ref (E.2.2.1 x2)), (3, .long x3), (5, .long x5), (7, .long x7), (9, .long x9), (11, .int x11)]) hC dX1_impliesWith_30 (by decide) rfl ?_
      refine g_aload_n hC dX1_impliesWith_32 rfl 1 rfl ?_
      refine g_iload hC dX1_impliesWith_33 8 rfl ?_
      refine g_aload_n hC dX1_impliesWith_35 rfl 3 rfl ?_
      obtain ⟨q2, hq2, h⟩ := bd_of h hf
      refine g_cVJ (As := [.int x11, .ref (E.2.2.1 x2)]) hC hO (c_X1_product _ hC.2.2.2.2.2.2.1 t ht1 ht2 x11 x2 hx2a hx2b q1.2 (nn_of hq2)) gc_X1_36 (xk_X1_product _ (Nat.le_of_ble_eq_true rfl) (Nat.le_of_ble_eq_true rfl)) cr1 ht1 ht2 rfl (Nat.le_of_ble_eq_true rfl) dX1_impliesWith_36 hq2 ?_
      refine g_lstore (lv' := [(14, .long q2.1), (12, .long q1.1), (0, .ref (E.2.2.1 t)), (1, .ref (E.2.2.1 x1)), (2, .ref (E.2.2.1 x2)), (3, .long x3), (5, .long x5), (7, .long x7), (9, .long x9), (11, .int x11)]) hC dX1_impliesWith_39 (by decide) rfl ?_
      refine g_lload hC dX1_impliesWith_41 1 rfl ?_
      refine g_lconst (v := 0) hC dX1_impliesWith_43 (by decide) ?_
      refine g_lc_lt (tgt := 57) hC dX1_impliesWith_44 dX1_impliesWith_45 (by decide) h (fun c44 h => ?_) (fun c44 h => ?_)
      · exact g_sub [2, 3, 4, 5, 6, 7, 8, 9, 1, 0] rfl (k_X1_impliesWith_57 hC hO hR hf t ht1 ht2 x1 hx1a hx1b x2 hx2a hx2b x3 x5 x7 x9 x11 q1.1 q2.1 (f_X1_impliesWith_14 t x1 x2 n) ih q2.2 h)
      · refine g_lload hC dX1_impliesWith_48 0 rfl ?_
        refine g_lconst (v := 0) hC dX1_impliesWith_50 (by decide) ?_
        refine g_lc_ge (tgt := 57) hC dX1_impliesWith_51 dX1_impliesWith_52 (by decide) h (fun c51 h => ?_) (fun c51 h => ?_)
        · exact g_sub [2, 3, 4, 5, 6, 7, 8, 9, 1, 0] rfl (k_X1_impliesWith_57 hC hO hR hf t ht1 ht2 x1 hx1a hx1b x2 hx2a hx2b x3 x5 x7 x9 x11 q1.1 q2.1 (f_X1_impliesWith_14 t x1 x2 n) ih q2.2 h)
        · refine g_iconst (v := 0) hC dX1_impliesWith_55 (by decide) ?_
          exact g_iret hC hR dX1_impliesWith_56 rfl h
set_option maxHeartbeats 4000000 in
set_option maxRecDepth 100000 in
theorem k_X1_impliesWith_0 {E : ET} {F : FT} {fo : Option (Int32 × HS)} (hC : Cx E F 16 cX1_impliesWith RX1 GT) (hO : Ro F rm_X1_impliesWith) (hR : RI E F .boolean fo) (hf : fo ≠ none) (t : Nat) (ht1 : kd t = 1) (ht2 : AL E t) (x1 : Nat) (hx1a : kd x1 = 14) (hx1b : AL E x1) (x2 : Nat) (hx2a : kd x2 = 14) (hx2b : AL E x2) (σ : HS) (h : f_X1_impliesWith t x1 x2 σ = fo) : G E F 0 [(0, .ref (E.2.2.1 t)), (1, .ref (E.2.2.1 x1)), (2, .ref (E.2.2.1 x2))] [] σ := by
    refine g_lconst (v := 0) hC dX1_impliesWith_0 (by decide) ?_
    refine g_lstore_n (lv' := [(3, .long 0), (0, .ref (E.2.2.1 t)), (1, .ref (E.2.2.1 x1)), (2, .ref (E.2.2.1 x2))]) hC dX1_impliesWith_1 rfl (by decide) rfl ?_
    refine g_lconst (v := 0) hC dX1_impliesWith_2 (by decide) ?_
    refine g_lstore (lv' := [(5, .long 0), (3, .long 0), (0, .ref (E.2.2.1 t)), (1, .ref (E.2.2.1 x1)), (2, .ref (E.2.2.1 x2))]) hC dX1_impliesWith_3 (by decide) rfl ?_
    refine g_lconst (v := 0) hC dX1_impliesWith_5 (by decide) ?_
    refine g_lstore (lv' := [(7, .long 0), (5, .long 0), (3, .long 0), (0, .ref (E.2.2.1 t)), (1, .ref (E.2.2.1 x1)), (2, .ref (E.2.2.1 x2))]) hC dX1_impliesWith_6 (by decide) rfl ?_
    refine g_lconst (v := 1) hC dX1_impliesWith_8 (by decide) ?_
    refine g_lstore (lv' := [(9, .long 1), (7, .long 0), (5, .long 0), (3, .long 0), (0, .ref (E.2.2.1 t)), (1, .ref (E.2.2.1 x1)), (2, .ref (E.2.2.1 x2))]) hC dX1_impliesWith_9 (by decide) rfl ?_
    refine g_iconst (v := 0) hC dX1_impliesWith_11 (by decide) ?_
    refine g_istore (lv' := [(11, .int 0), (9, .long 1), (7, .long 0), (5, .long 0), (3, .long 0), (0, .ref (E.2.2.1 t)), (1, .ref (E.2.2.1 x1)), (2, .ref (E.2.2.1 x2))]) hC dX1_impliesWith_12 (by decide) rfl ?_
    exact g_sub [5, 6, 7, 4, 3, 2, 1, 0] rfl (k_X1_impliesWith_14 hC hO hR hf t ht1 ht2 x1 hx1a hx1b x2 hx2a hx2b FU 0 0 0 1 0 σ h)
theorem xk_X1_impliesWith (R : Room) (h1 : 1 + 1 ≤ R.frames) (h2 : 84 ≤ R.locals) : xw R yX1_impliesWith w_X1_impliesWith GT cX1_impliesWith 16 (some .boolean) rm_X1_impliesWith 2 := ⟨rfl, rfl, rfl, h1, h2, ⟨by decide, by decide⟩, by decide +kernel⟩
theorem c_X1_impliesWith (E : ET) (hE : EO E) (t : Nat) (ht1 : kd t = 1) (ht2 : AL E t) (x1 : Nat) (hx1a : kd x1 = 14) (hx1b : AL E x1) (x2 : Nat) (hx2a : kd x2 = 14) (hx2b : AL E x2) (σ : HS) (hn : f_X1_impliesWith t x1 x2 σ ≠ none) : CoI E yX1_impliesWith w_X1_impliesWith rm_X1_impliesWith [.ref (E.2.2.1 t), .ref (E.2.2.1 x1), .ref (E.2.2.1 x2)] σ (f_X1_impliesWith t x1 x2 σ) := CoI.of (lv := [(0, .ref (E.2.2.1 t)), (1, .ref (E.2.2.1 x1)), (2, .ref (E.2.2.1 x2))]) hE (plainFor_of_name (by decide)) rfl (Nat.le_of_ble_eq_true rfl) rfl (fun F hC hO hR => k_X1_impliesWith_0 hC hO hR hn t ht1 ht2 x1 hx1a hx1b x2 hx2a hx2b σ rfl)
def rm_X2_prepare : Room := { frames := 3, cells := 0, slots := 0, locals := 104 }
theorem fl_X2_15 : Cond.fieldLink RX2 15 "EveryMeasure$Crowd" (TX2 3).2.1 (TX2 3).2.2.1 ∈ GT := gtr_6 _ (List.mem_of_getElem? (i := 15) rfl)
theorem fl_X2_19 : Cond.fieldLink RX2 19 "EveryMeasure$Crowd" (TX2 4).2.1 (TX2 4).2.2.1 ∈ GT := gtr_6 _ (List.mem_of_getElem? (i := 16) rfl)
theorem fl_X2_23 : Cond.fieldLink RX2 23 "EveryMeasure$Crowd" (TX2 5).2.1 (TX2 5).2.2.1 ∈ GT := gtr_6 _ (List.mem_of_getElem? (i := 17) rfl)
theorem fl_X2_26 : Cond.fieldLink RX2 26 "EveryMeasure$Crowd" (TX2 0).2.1 (TX2 0).2.2.1 ∈ GT := gtr_6 _ (List.mem_of_getElem? (i := 18) rfl)
theorem fl_X2_48 : Cond.fieldLink RX2 48 "EveryMeasure$Weights" (TX10 3).2.1 (TX10 3).2.2.1 ∈ GT := gtr_53 _ (List.mem_of_getElem? (i := 10) rfl)
theorem fl_X2_54 : Cond.fieldLink RX2 54 "EveryMeasure$Weights" (TX10 1).2.1 (TX10 1).2.2.1 ∈ GT := gtr_53 _ (List.mem_of_getElem? (i := 11) rfl)
theorem wc_X1_become : Cond.code yX1_become cX1_become 3 none ∈ GT := gtr_24 _ (List.mem_of_getElem? (i := 14) rfl)
theorem gc_X2_58 : GoodIn GT (wsV RX2 58 RX1 yX1_become w_X1_become) := gi_V (gtr_53 _ (List.mem_of_getElem? (i := 13) rfl)) (gtr_24 _ (List.mem_of_getElem? (i := 12) rfl)) (gtr_24 _ (List.mem_of_getElem? (i := 13) rfl)) (gtr_4 _ (List.mem_of_getElem? (i := 21) rfl)) wc_X1_become
theorem fl_X2_9 : Cond.fieldLink RX2 9 "EveryMeasure$Crowd" (TX2 2).2.1 (TX2 2).2.2.1 ∈ GT := gtr_6 _ (List.mem_of_getElem? (i := 14) rfl)
theorem wc_X0_sayingsOf : Cond.code yX0_sayingsOf cX0_sayingsOf 4 (some .int) ∈ GT := gtr_24 _ (List.mem_of_getElem? (i := 2) rfl)
theorem gc_X2_42 : GoodIn GT (wsV RX2 42 RX0 yX0_sayingsOf w_X0_sayingsOf) := gi_V (gtr_53 _ (List.mem_of_getElem? (i := 12) rfl)) (gtr_24 _ (List.mem_of_getElem? (i := 0) rfl)) (gtr_24 _ (List.mem_of_getElem? (i := 1) rfl)) (gtr_3 _ (List.mem_of_getElem? (i := 9) rfl)) wc_X0_sayingsOf
set_option maxHeartbeats 4000000 in
set_option maxRecDepth 100000 in
theorem k_X2_prepare_3 {E : ET} {F : FT} {fo : Option HS} (hC : Cx E F 5 cX2_prepare RX2 GT) (hO : Ro F rm_X2_prepare) (hR : RV E F fo) (hf : fo ≠ none) (t : Nat) (ht1 : kd t = 2) (ht2 : AL E t) (x1 : Nat) (hx1a : kd x1 = 0) (hx1b : AL E x1) (x2 : Int32) (x3 : Int32) : ∀ (n : Nat) (x4 : Int32) (σ : HS), f_X2_prepare_3 t x1 x2 x3 n x4 σ = fo → G E F 3 [(0, .ref (E.2.2.1 t)), (1, .ref (E.2.2.1 x1)), (2, .int x2), (3, .int x3), (4, .int x4)] [] σ := by
  intro n
  induction n with
  | zero =>
    intro x4 σ h
    exact absurd (h.symm.trans rfl) hf
  | succ n ih =>
    intro x4 σ h
    refine g_iload hC dX2_prepare_3 4 rfl ?_
    refine g_bipush (v := 8) hC dX2_prepare_5 (by decide) ?_
    refine g_icmp_ge (tgt := 33) hC dX2_prepare_7 (by decide) h (fun c7 h => ?_) (fun c7 h => ?_)
    · refine g_aload_n hC dX2_prepare_33 rfl 0 rfl ?_
      refine g_iload_n hC dX2_prepare_34 rfl 2 rfl ?_
      refine g_putI (k := 3) hC cr2 ui_2 tyX2_ok nmX2 ht1 ht2 (by decide) fl_X2_15 rfl rfl rfl rfl dX2_prepare_35 ?_
      refine g_aload_n hC dX2_prepare_38 rfl 0 rfl ?_
      refine g_iload_n hC dX2_prepare_39 rfl 3 rfl ?_
      obtain ⟨hzc40, h⟩ := zc_of h hf
      refine g_putZ (k := 4) hC cr2 ui_2 tyX2_ok nmX2 ht1 ht2 (by decide) fl_X2_19 rfl rfl rfl rfl dX2_prepare_40 hzc40 ?_
      refine g_aload_n hC dX2_prepare_43 rfl 0 rfl ?_
      refine g_iconst (v := (-1)) hC dX2_prepare_44 (by decide) ?_
      refine g_putI (k := 5) hC cr2 ui_2 tyX2_ok nmX2 ht1 ht2 (by decide) fl_X2_23 rfl rfl rfl rfl dX2_prepare_45 ?_
      refine g_aload_n hC dX2_prepare_48 rfl 0 rfl ?_
      refine g_getR (cj := 10) (k := 0) hC cr2 ui_2 ht1 ht2 (by decide) fl_X2_26 rfl rfl dX2_prepare_49 h hf (fun a1 ea1 ka1 na1 h => ?_)
      refine g_getR (cj := 17) (k := 3) hC cr10 ui_10 ka1 na1 (by decide) fl_X2_48 rfl rfl dX2_prepare_52 h hf (fun a2 ea2 ka2 na2 h => ?_)
      refine g_iconst (v := 0) hC dX2_prepare_55 (by decide) ?_
      refine g_aaldC (cj := 1) hC ka2 na2 dX2_prepare_56 h hf (fun a3 ea3 ka3 na3 h => ?_)
      refine g_aload_n hC dX2_prepare_57 rfl 0 rfl ?_
      refine g_getR (cj := 10) (k := 0) hC cr2 ui_2 ht1 ht2 (by decide) fl_X2_26 rfl rfl dX2_prepare_58 h hf (fun a4 ea4 ka4 na4 h => ?_)
      refine g_getR (cj := 1) (k := 1) hC cr10 ui_10 ka4 na4 (by decide) fl_X2_54 rfl rfl dX2_prepare_61 h hf (fun a5 ea5 ka5 na5 h => ?_)
      obtain ⟨q6, hq6, h⟩ := bd_of h hf
      refine g_cVV (As := [.ref (E.2.2.1 a5)]) hC hO (c_X1_become _ hC.2.2.2.2.2.2.1 a3 ka3 na3 a5 ka5 na5 (sI (sI (sI σ t 3 x2) t 4 x3) t 5 (-1)) (nn_of hq6)) gc_X2_58 (xk_X1_become _ (Nat.le_of_ble_eq_true rfl) (Nat.le_of_ble_eq_true rfl)) cr1 ka3 na3 rfl (Nat.le_of_ble_eq_true rfl) dX2_prepare_64 hq6 ?_
      exact g_vret hC hR dX2_prepare_67 h
    · refine g_aload_n hC dX2_prepare_10 rfl 0 rfl ?_
      refine g_getR (cj := 14) (k := 2) hC cr2 ui_2 ht1 ht2 (by decide) fl_X2_9 rfl rfl dX2_prepare_11 h hf (fun a7 ea7 ka7 na7 h => ?_)
      refine g_iload hC dX2_prepare_14 4 rfl ?_
      refine g_aload_n hC dX2_prepare_16 rfl 1 rfl ?_
      refine g_iload_n hC dX2_prepare_17 rfl 2 rfl ?_
      refine g_iconst (v := 1) hC dX2_prepare_18 (by decide) ?_
      refine g_iload hC dX2_prepare_19 4 rfl ?_
      refine g_ishl hC dX2_prepare_21 ?_
      refine g_iand hC dX2_prepare_22 ?_
      obtain ⟨q8, hq8, h⟩ := bd_of h hf
      refine g_cVI (As := [.int (x2 &&& ((1 : Int32) <<< (x4 &&& 31)))]) hC hO (c_X0_sayingsOf _ hC.2.2.2.2.2.2.1 x1 hx1a hx1b (x2 &&& ((1 : Int32) <<< (x4 &&& 31))) σ (nn_of hq8)) gc_X2_42 (xk_X0_sayingsOf _ (Nat.le_of_ble_eq_true rfl) (Nat.le_of_ble_eq_true rfl)) cr0 hx1a hx1b rfl (Nat.le_of_ble_eq_true rfl) dX2_prepare_23 hq8 ?_
      refine g_iast hC ka7 na7 dX2_prepare_26 h hf (fun h => ?_)
      refine g_iinc (v := x4 + 1) (lv' := [(4, .int (x4 + 1)), (0, .ref (E.2.2.1 t)), (1, .ref (E.2.2.1 x1)), (2, .int x2), (3, .int x3)]) hC dX2_prepare_27 4 rfl rfl (by decide) rfl ?_
      refine g_goto (tgt := 3) hC dX2_prepare_30 (by decide) ?_
      exact g_sub [1, 2, 3, 4, 0] rfl (ih (x4 + 1) (sI q8.2 a7 x4.toNatClampNeg q8.1) h)
set_option maxHeartbeats 4000000 in
set_option maxRecDepth 100000 in
theorem k_X2_prepare_0 {E : ET} {F : FT} {fo : Option HS} (hC : Cx E F 5 cX2_prepare RX2 GT) (hO : Ro F rm_X2_prepare) (hR : RV E F fo) (hf : fo ≠ none) (t : Nat) (ht1 : kd t = 2) (ht2 : AL E t) (x1 : Nat) (hx1a : kd x1 = 0) (hx1b : AL E x1) (x2 : Int32) (x3 : Int32) (σ : HS) (h : f_X2_prepare t x1 x2 x3 σ = fo) : G E F 0 [(0, .ref (E.2.2.1 t)), (1, .ref (E.2.2.1 x1)), (2, .int x2), (3, .int x3)] [] σ := by
    refine g_iconst (v := 0) hC dX2_prepare_0 (by decide) ?_
    refine g_istore (lv' := [(4, .int 0), (0, .ref (E.2.2.1 t)), (1, .ref (E.2.2.1 x1)), (2, .int x2), (3, .int x3)]) hC dX2_prepare_1 (by decide) rfl ?_
    exact g_sub [1, 2, 3, 4, 0] rfl (k_X2_prepare_3 hC hO hR hf t ht1 ht2 x1 hx1a hx1b x2 x3 FU 0 σ h)
theorem xk_X2_prepare (R : Room) (h1 : 3 + 1 ≤ R.frames) (h2 : 140 ≤ R.locals) : xw R yX2_prepare w_X2_prepare GT cX2_prepare 5 none rm_X2_prepare 3 := ⟨rfl, rfl, rfl, h1, h2, ⟨by decide, by decide⟩, by decide +kernel⟩
theorem c_X2_prepare (E : ET) (hE : EO E) (t : Nat) (ht1 : kd t = 2) (ht2 : AL E t) (x1 : Nat) (hx1a : kd x1 = 0) (hx1b : AL E x1) (x2 : Int32) (x3 : Int32) (σ : HS) (hn : f_X2_prepare t x1 x2 x3 σ ≠ none) : CoV E yX2_prepare w_X2_prepare rm_X2_prepare [.ref (E.2.2.1 t), .ref (E.2.2.1 x1), .int x2, .int x3] σ (f_X2_prepare t x1 x2 x3 σ) := CoV.of (lv := [(0, .ref (E.2.2.1 t)), (1, .ref (E.2.2.1 x1)), (2, .int x2), (3, .int x3)]) hE (plainFor_of_name (by decide)) rfl (Nat.le_of_ble_eq_true rfl) rfl (fun F hC hO hR => k_X2_prepare_0 hC hO hR hn t ht1 ht2 x1 hx1a hx1b x2 x3 σ rfl)
def rm_X4_fillGoods : Room := { frames := 1, cells := 0, slots := 0, locals := 37 }
theorem fl_X4_23 : Cond.fieldLink RX4 23 "EveryMeasure$Judge" (TX4 5).2.1 (TX4 5).2.2.1 ∈ GT := gtr_5 _ (List.mem_of_getElem? (i := 19) rfl)
theorem fl_X4_36 : Cond.fieldLink RX4 36 "EveryMeasure$Judge" (TX4 0).2.1 (TX4 0).2.2.1 ∈ GT := gtr_5 _ (List.mem_of_getElem? (i := 23) rfl)
theorem fl_X4_99 : Cond.fieldLink RX4 99 "EveryMeasure$Things" (TX9 1).2.1 (TX9 1).2.2.1 ∈ GT := gtr_40 _ (List.mem_of_getElem? (i := 18) rfl)
theorem gc_X4_60 : GoodIn GT (wsV RX4 60 RX1 yX1_product w_X1_product) := gi_V (gtr_37 _ (List.mem_of_getElem? (i := 7) rfl)) (gtr_25 _ (List.mem_of_getElem? (i := 4) rfl)) (gtr_25 _ (List.mem_of_getElem? (i := 5) rfl)) (gtr_4 _ (List.mem_of_getElem? (i := 21) rfl)) wc_X1_product
set_option maxHeartbeats 4000000 in
set_option maxRecDepth 100000 in
theorem k_X4_fillGoods_2 {E : ET} {F : FT} {fo : Option HS} (hC : Cx E F 4 cX4_fillGoods RX4 GT) (hO : Ro F rm_X4_fillGoods) (hR : RV E F fo) (hf : fo ≠ none) (t : Nat) (ht1 : kd t = 4) (ht2 : AL E t) (x1 : Nat) (hx1a : kd x1 = 1) (hx1b : AL E x1) (x2 : Int32) : ∀ (n : Nat) (x3 : Int32) (σ : HS), f_X4_fillGoods_2 t x1 x2 n x3 σ = fo → G E F 2 [(0, .ref (E.2.2.1 t)), (1, .ref (E.2.2.1 x1)), (2, .int x2), (3, .int x3)] [] σ := by
  intro n
  induction n with
  | zero =>
    intro x3 σ h
    exact absurd (h.symm.trans rfl) hf
  | succ n ih =>
    intro x3 σ h
    refine g_iload_n hC dX4_fillGoods_2 rfl 3 rfl ?_
    refine g_bipush (v := 8) hC dX4_fillGoods_3 (by decide) ?_
    refine g_icmp_ge (tgt := 34) hC dX4_fillGoods_5 (by decide) h (fun c5 h => ?_) (fun c5 h => ?_)
    · exact g_vret hC hR dX4_fillGoods_34 h
    · refine g_aload_n hC dX4_fillGoods_8 rfl 0 rfl ?_
      refine g_getR (cj := 15) (k := 5) hC cr4 ui_4 ht1 ht2 (by decide) fl_X4_23 rfl rfl dX4_fillGoods_9 h hf (fun a1 ea1 ka1 na1 h => ?_)
      refine g_iload_n hC dX4_fillGoods_12 rfl 3 rfl ?_
      refine g_aload_n hC dX4_fillGoods_13 rfl 1 rfl ?_
      refine g_iload_n hC dX4_fillGoods_14 rfl 2 rfl ?_
      refine g_aload_n hC dX4_fillGoods_15 rfl 0 rfl ?_
      refine g_getR (cj := 9) (k := 0) hC cr4 ui_4 ht1 ht2 (by decide) fl_X4_36 rfl rfl dX4_fillGoods_16 h hf (fun a2 ea2 ka2 na2 h => ?_)
      refine g_getR (cj := 18) (k := 1) hC cr9 ui_9 ka2 na2 (by decide) fl_X4_99 rfl rfl dX4_fillGoods_19 h hf (fun a3 ea3 ka3 na3 h => ?_)
      refine g_iload_n hC dX4_fillGoods_22 rfl 3 rfl ?_
      refine g_aaldI (cj := 14) hC ka3 na3 dX4_fillGoods_23 h hf (fun a4 ea4 ka4 na4 h => ?_)
      obtain ⟨q5, hq5, h⟩ := bd_of h hf
      refine g_cVJ (As := [.int x2, .ref (E.2.2.1 a4)]) hC hO (c_X1_product _ hC.2.2.2.2.2.2.1 x1 hx1a hx1b x2 a4 ka4 na4 σ (nn_of hq5)) gc_X4_60 (xk_X1_product _ (Nat.le_of_ble_eq_true rfl) (Nat.le_of_ble_eq_true rfl)) cr1 hx1a hx1b rfl (Nat.le_of_ble_eq_true rfl) dX4_fillGoods_24 hq5 ?_
      refine g_last hC ka1 na1 dX4_fillGoods_27 h hf (fun h => ?_)
      refine g_iinc (v := x3 + 1) (lv' := [(3, .int (x3 + 1)), (0, .ref (E.2.2.1 t)), (1, .ref (E.2.2.1 x1)), (2, .int x2)]) hC dX4_fillGoods_28 3 rfl rfl (by decide) rfl ?_
      refine g_goto (tgt := 2) hC dX4_fillGoods_31 (by decide) ?_
      exact g_sub [1, 2, 3, 0] rfl (ih (x3 + 1) (sJ q5.2 a1 x3.toNatClampNeg q5.1) h)
set_option maxHeartbeats 4000000 in
set_option maxRecDepth 100000 in
theorem k_X4_fillGoods_0 {E : ET} {F : FT} {fo : Option HS} (hC : Cx E F 4 cX4_fillGoods RX4 GT) (hO : Ro F rm_X4_fillGoods) (hR : RV E F fo) (hf : fo ≠ none) (t : Nat) (ht1 : kd t = 4) (ht2 : AL E t) (x1 : Nat) (hx1a : kd x1 = 1) (hx1b : AL E x1) (x2 : Int32) (σ : HS) (h : f_X4_fillGoods t x1 x2 σ = fo) : G E F 0 [(0, .ref (E.2.2.1 t)), (1, .ref (E.2.2.1 x1)), (2, .int x2)] [] σ := by
    refine g_iconst (v := 0) hC dX4_fillGoods_0 (by decide) ?_
    refine g_istore_n (lv' := [(3, .int 0), (0, .ref (E.2.2.1 t)), (1, .ref (E.2.2.1 x1)), (2, .int x2)]) hC dX4_fillGoods_1 rfl (by decide) rfl ?_
    exact g_sub [1, 2, 3, 0] rfl (k_X4_fillGoods_2 hC hO hR hf t ht1 ht2 x1 hx1a hx1b x2 FU 0 σ h)
theorem xk_X4_fillGoods (R : Room) (h1 : 1 + 1 ≤ R.frames) (h2 : 72 ≤ R.locals) : xw R yX4_fillGoods w_X4_fillGoods GT cX4_fillGoods 4 none rm_X4_fillGoods 2 := ⟨rfl, rfl, rfl, h1, h2, ⟨by decide, by decide⟩, by decide +kernel⟩
theorem c_X4_fillGoods (E : ET) (hE : EO E) (t : Nat) (ht1 : kd t = 4) (ht2 : AL E t) (x1 : Nat) (hx1a : kd x1 = 1) (hx1b : AL E x1) (x2 : Int32) (σ : HS) (hn : f_X4_fillGoods t x1 x2 σ ≠ none) : CoV E yX4_fillGoods w_X4_fillGoods rm_X4_fillGoods [.ref (E.2.2.1 t), .ref (E.2.2.1 x1), .int x2] σ (f_X4_fillGoods t x1 x2 σ) := CoV.of (lv := [(0, .ref (E.2.2.1 t)), (1, .ref (E.2.2.1 x1)), (2, .int x2)]) hE (plainFor_of_name (by decide)) rfl (Nat.le_of_ble_eq_true rfl) rfl (fun F hC hO hR => k_X4_fillGoods_0 hC hO hR hn t ht1 ht2 x1 hx1a hx1b x2 σ rfl)
def rm_X9_greatestOf : Room := { frames := 0, cells := 0, slots := 0, locals := 0 }
theorem cl_X9_55 : Cond.constantLong RX9 55 (-1) ∈ GT := gtr_40 _ (List.mem_of_getElem? (i := 22) rfl)
set_option maxHeartbeats 4000000 in
set_option maxRecDepth 100000 in
theorem k_X9_greatestOf_62 {E : ET} {F : FT} {fo : Option (Int32 × HS)} (hC : Cx E F 6 cX9_greatestOf RX9 GT) (hO : Ro F rm_X9_greatestOf) (hR : RI E F .int fo) (hf : fo ≠ none) (x0 : Int32) (x1 : Nat) (hx1a : kd x1 = 15) (hx1b : AL E x1) (x2 : Int32) (x3 : Int64) (x5 : Int32) (r9 : Int32 → Int64 → Int32 → HS → Option (Int32 × HS)) (h9 : ∀ (x2 : Int32) (x3 : Int64) (x5 : Int32) (σ : HS), r9 x2 x3 x5 σ = fo → G E F 9 [(0, .int x0), (1, .ref (E.2.2.1 x1)), (2, .int x2), (3, .long x3), (5, .int x5)] [] σ) (σ : HS) (h : f_X9_greatestOf_62 r9 x0 x1 x2 x3 x5 σ = fo) : G E F 62 [(0, .int x0), (1, .ref (E.2.2.1 x1)), (2, .int x2), (3, .long x3), (5, .int x5)] [] σ := by
    refine g_iinc (v := x5 + 1) (lv' := [(5, .int (x5 + 1)), (0, .int x0), (1, .ref (E.2.2.1 x1)), (2, .int x2), (3, .long x3)]) hC dX9_greatestOf_62 4 rfl rfl (by decide) rfl ?_
    refine g_goto (tgt := 9) hC dX9_greatestOf_65 (by decide) ?_
    exact g_sub [1, 2, 3, 4, 0] rfl (h9 x2 x3 (x5 + 1) σ h)
set_option maxHeartbeats 4000000 in
set_option maxRecDepth 100000 in
theorem k_X9_greatestOf_56 {E : ET} {F : FT} {fo : Option (Int32 × HS)} (hC : Cx E F 6 cX9_greatestOf RX9 GT) (hO : Ro F rm_X9_greatestOf) (hR : RI E F .int fo) (hf : fo ≠ none) (x0 : Int32) (x1 : Nat) (hx1a : kd x1 = 15) (hx1b : AL E x1) (x5 : Int32) (s0 : Int32) (r9 : Int32 → Int64 → Int32 → HS → Option (Int32 × HS)) (h9 : ∀ (x2 : Int32) (x3 : Int64) (x5 : Int32) (σ : HS), r9 x2 x3 x5 σ = fo → G E F 9 [(0, .int x0), (1, .ref (E.2.2.1 x1)), (2, .int x2), (3, .long x3), (5, .int x5)] [] σ) (σ : HS) (h : f_X9_greatestOf_56 r9 x0 x1 x5 s0 σ = fo) : G E F 56 [(0, .int x0), (1, .ref (E.2.2.1 x1)), (5, .int x5)] [.int s0] σ := by
    refine g_istore_n (lv' := [(2, .int s0), (0, .int x0), (1, .ref (E.2.2.1 x1)), (5, .int x5)]) hC dX9_greatestOf_56 rfl (by decide) rfl ?_
    refine g_aload_n hC dX9_greatestOf_57 rfl 2 rfl ?_
    refine g_iload hC dX9_greatestOf_58 3 rfl ?_
    refine g_lald hC hx1a hx1b dX9_greatestOf_60 h hf (fun h => ?_)
    refine g_lstore_n (lv' := [(3, .long (σ.2.1 x1 x5.toNatClampNeg)), (2, .int s0), (0, .int x0), (1, .ref (E.2.2.1 x1)), (5, .int x5)]) hC dX9_greatestOf_61 rfl (by decide) rfl ?_
    exact g_sub [2, 3, 1, 0, 4] rfl (k_X9_greatestOf_62 hC hO hR hf x0 x1 hx1a hx1b s0 (σ.2.1 x1 x5.toNatClampNeg) x5 r9 h9 σ h)
set_option maxHeartbeats 4000000 in
set_option maxRecDepth 100000 in
theorem k_X9_greatestOf_9 {E : ET} {F : FT} {fo : Option (Int32 × HS)} (hC : Cx E F 6 cX9_greatestOf RX9 GT) (hO : Ro F rm_X9_greatestOf) (hR : RI E F .int fo) (hf : fo ≠ none) (x0 : Int32) (x1 : Nat) (hx1a : kd x1 = 15) (hx1b : AL E x1) : ∀ (n : Nat) (x2 : Int32) (x3 : Int64) (x5 : Int32) (σ : HS), f_X9_greatestOf_9 x0 x1 n x2 x3 x5 σ = fo → G E F 9 [(0, .int x0), (1, .ref (E.2.2.1 x1)), (2, .int x2), (3, .long x3), (5, .int x5)] [] σ := by
  intro n
  induction n with
  | zero =>
    intro x2 x3 x5 σ h
    exact absurd (h.symm.trans rfl) hf
  | succ n ih =>
    intro x2 x3 x5 σ h
    refine g_iload hC dX9_greatestOf_9 4 rfl ?_
    refine g_bipush (v := 8) hC dX9_greatestOf_11 (by decide) ?_
    refine g_icmp_ge (tgt := 68) hC dX9_greatestOf_13 (by decide) h (fun c13 h => ?_) (fun c13 h => ?_)
    · refine g_iload_n hC dX9_greatestOf_68 rfl 2 rfl ?_
      exact g_iret hC hR dX9_greatestOf_69 rfl h
    · refine g_iload_n hC dX9_greatestOf_16 rfl 0 rfl ?_
      refine g_iconst (v := 1) hC dX9_greatestOf_17 (by decide) ?_
      refine g_iload hC dX9_greatestOf_18 4 rfl ?_
      refine g_ishl hC dX9_greatestOf_20 ?_
      refine g_iand hC dX9_greatestOf_21 ?_
      refine g_if_eq (tgt := 62) hC dX9_greatestOf_22 (by decide) h (fun c22 h => ?_) (fun c22 h => ?_)
      · exact g_sub [0, 1, 2, 3, 4] rfl (k_X9_greatestOf_62 hC hO hR hf x0 x1 hx1a hx1b x2 x3 x5 (f_X9_greatestOf_9 x0 x1 n) ih σ h)
      · refine g_aload_n hC dX9_greatestOf_25 rfl 1 rfl ?_
        refine g_iload hC dX9_greatestOf_26 4 rfl ?_
        refine g_lald hC hx1a hx1b dX9_greatestOf_28 h hf (fun h => ?_)
        refine g_lload_n hC dX9_greatestOf_29 rfl 3 rfl ?_
        refine g_lc_lt (tgt := 62) hC dX9_greatestOf_30 dX9_greatestOf_31 (by decide) h (fun c30 h => ?_) (fun c30 h => ?_)
        · exact g_sub [0, 1, 2, 3, 4] rfl (k_X9_greatestOf_62 hC hO hR hf x0 x1 hx1a hx1b x2 x3 x5 (f_X9_greatestOf_9 x0 x1 n) ih σ h)
        · refine g_aload_n hC dX9_greatestOf_34 rfl 1 rfl ?_
          refine g_iload hC dX9_greatestOf_35 4 rfl ?_
          refine g_lald hC hx1a hx1b dX9_greatestOf_37 h hf (fun h => ?_)
          refine g_lload_n hC dX9_greatestOf_38 rfl 3 rfl ?_
          refine g_lc_le (tgt := 50) hC dX9_greatestOf_39 dX9_greatestOf_40 (by decide) h (fun c39 h => ?_) (fun c39 h => ?_)
          · refine g_iload_n hC dX9_greatestOf_50 rfl 2 rfl ?_
            refine g_iconst (v := 1) hC dX9_greatestOf_51 (by decide) ?_
            refine g_iload hC dX9_greatestOf_52 4 rfl ?_
            refine g_ishl hC dX9_greatestOf_54 ?_
            refine g_ior hC dX9_greatestOf_55 ?_
            exact g_sub [0, 1, 4] rfl (k_X9_greatestOf_56 hC hO hR hf x0 x1 hx1a hx1b x5 (x2 ||| ((1 : Int32) <<< (x5 &&& 31))) (f_X9_greatestOf_9 x0 x1 n) ih σ h)
          · refine g_iconst (v := 1) hC dX9_greatestOf_43 (by decide) ?_
            refine g_iload hC dX9_greatestOf_44 4 rfl ?_
            refine g_ishl hC dX9_greatestOf_46 ?_
            refine g_goto (tgt := 56) hC dX9_greatestOf_47 (by decide) ?_
            exact g_sub [0, 1, 4] rfl (k_X9_greatestOf_56 hC hO hR hf x0 x1 hx1a hx1b x5 ((1 : Int32) <<< (x5 &&& 31)) (f_X9_greatestOf_9 x0 x1 n) ih σ h)
set_option maxHeartbeats 4000000 in
set_option maxRecDepth 100000 in
theorem k_X9_greatestOf_0 {E : ET} {F : FT} {fo : Option (Int32 × HS)} (hC : Cx E F 6 cX9_greatestOf RX9 GT) (hO : Ro F rm_X9_greatestOf) (hR : RI E F .int fo) (hf : fo ≠ none) (x0 : Int32) (x1 : Nat) (hx1a : kd x1 = 15) (hx1b : AL E x1) (σ : HS) (h : f_X9_greatestOf x0 x1 σ = fo) : G E F 0 [(0, .int x0), (1, .ref (E.2.2.1 x1))] [] σ := by
    refine g_iconst (v := 0) hC dX9_greatestOf_0 (by decide) ?_
    refine g_istore_n (lv' := [(2, .int 0), (0, .int x0), (1, .ref (E.2.2.1 x1))]) hC dX9_greatestOf_1 rfl (by decide) rfl ?_
    refine g_ldc2 (v := (-1)) hC cl_X9_55 dX9_greatestOf_2 ?_
    refine g_lstore_n (lv' := [(3, .long (-1)), (2, .int 0), (0, .int x0), (1, .ref (E.2.2.1 x1))]) hC dX9_greatestOf_5 rfl (by decide) rfl ?_
    refine g_iconst (v := 0) hC dX9_greatestOf_6 (by decide) ?_
    refine g_istore (lv' := [(5, .int 0), (3, .long (-1)), (2, .int 0), (0, .int x0), (1, .ref (E.2.2.1 x1))]) hC dX9_greatestOf_7 (by decide) rfl ?_
    exact g_sub [3, 4, 2, 1, 0] rfl (k_X9_greatestOf_9 hC hO hR hf x0 x1 hx1a hx1b FU 0 (-1) 0 σ h)
theorem xk_X9_greatestOf (R : Room) (h1 : 0 + 1 ≤ R.frames) (h2 : 37 ≤ R.locals) : xw R yX9_greatestOf w_X9_greatestOf GT cX9_greatestOf 6 (some .int) rm_X9_greatestOf 2 := ⟨rfl, rfl, rfl, h1, h2, ⟨by decide, by decide⟩, by decide +kernel⟩
theorem c_X9_greatestOf (E : ET) (hE : EO E) (x0 : Int32) (x1 : Nat) (hx1a : kd x1 = 15) (hx1b : AL E x1) (σ : HS) (hn : f_X9_greatestOf x0 x1 σ ≠ none) : CoI E yX9_greatestOf w_X9_greatestOf rm_X9_greatestOf [.int x0, .ref (E.2.2.1 x1)] σ (f_X9_greatestOf x0 x1 σ) := CoI.of (lv := [(0, .int x0), (1, .ref (E.2.2.1 x1))]) hE (plainFor_of_name (by decide)) rfl (Nat.le_of_ble_eq_true rfl) rfl (fun F hC hO hR => k_X9_greatestOf_0 hC hO hR hn x0 x1 hx1a hx1b σ rfl)
def rm_X4_bestByCorner : Room := { frames := 2, cells := 0, slots := 0, locals := 72 }
theorem wc_X4_fillGoods : Cond.code yX4_fillGoods cX4_fillGoods 4 none ∈ GT := gtr_40 _ (List.mem_of_getElem? (i := 17) rfl)
theorem gc_X4_102 : GoodIn GT (wsV RX4 102 RX4 yX4_fillGoods w_X4_fillGoods) := gi_V (gtr_40 _ (List.mem_of_getElem? (i := 14) rfl)) (gtr_40 _ (List.mem_of_getElem? (i := 15) rfl)) (gtr_40 _ (List.mem_of_getElem? (i := 16) rfl)) (gtr_2 _ (List.mem_of_getElem? (i := 8) rfl)) wc_X4_fillGoods
theorem fl_X4_106 : Cond.fieldLink RX4 106 "EveryMeasure$Things" (TX9 4).2.1 (TX9 4).2.2.1 ∈ GT := gtr_40 _ (List.mem_of_getElem? (i := 13) rfl)
theorem wc_X9_greatestOf : Cond.code yX9_greatestOf cX9_greatestOf 6 (some .int) ∈ GT := gtr_40 _ (List.mem_of_getElem? (i := 21) rfl)
theorem gc_X4_109 : GoodIn GT (va_wsS RX4 109 yX9_greatestOf w_X9_greatestOf) := gi_S (gtr_40 _ (List.mem_of_getElem? (i := 19) rfl)) (gtr_40 _ (List.mem_of_getElem? (i := 20) rfl)) (gtr_2 _ (List.mem_of_getElem? (i := 0) rfl)) wc_X9_greatestOf
set_option maxHeartbeats 4000000 in
set_option maxRecDepth 100000 in
theorem k_X4_bestByCorner_0 {E : ET} {F : FT} {fo : Option (Int32 × HS)} (hC : Cx E F 3 cX4_bestByCorner RX4 GT) (hO : Ro F rm_X4_bestByCorner) (hR : RI E F .int fo) (hf : fo ≠ none) (t : Nat) (ht1 : kd t = 4) (ht2 : AL E t) (x1 : Nat) (hx1a : kd x1 = 1) (hx1b : AL E x1) (x2 : Int32) (σ : HS) (h : f_X4_bestByCorner t x1 x2 σ = fo) : G E F 0 [(0, .ref (E.2.2.1 t)), (1, .ref (E.2.2.1 x1)), (2, .int x2)] [] σ := by
    refine g_aload_n hC dX4_bestByCorner_0 rfl 0 rfl ?_
    refine g_aload_n hC dX4_bestByCorner_1 rfl 1 rfl ?_
    refine g_iload_n hC dX4_bestByCorner_2 rfl 2 rfl ?_
    obtain ⟨q1, hq1, h⟩ := bd_of h hf
    refine g_cVV (As := [.ref (E.2.2.1 x1), .int x2]) hC hO (c_X4_fillGoods _ hC.2.2.2.2.2.2.1 t ht1 ht2 x1 hx1a hx1b x2 σ (nn_of hq1)) gc_X4_102 (xk_X4_fillGoods _ (Nat.le_of_ble_eq_true rfl) (Nat.le_of_ble_eq_true rfl)) cr4 ht1 ht2 rfl (Nat.le_of_ble_eq_true rfl) dX4_bestByCorner_3 hq1 ?_
    refine g_aload_n hC dX4_bestByCorner_6 rfl 0 rfl ?_
    refine g_getR (cj := 9) (k := 0) hC cr4 ui_4 ht1 ht2 (by decide) fl_X4_36 rfl rfl dX4_bestByCorner_7 h hf (fun a2 ea2 ka2 na2 h => ?_)
    refine g_getI (k := 4) hC cr9 ui_9 ka2 na2 (by decide) fl_X4_106 rfl rfl dX4_bestByCorner_10 ?_
    refine g_aload_n hC dX4_bestByCorner_13 rfl 0 rfl ?_
    refine g_getR (cj := 15) (k := 5) hC cr4 ui_4 ht1 ht2 (by decide) fl_X4_23 rfl rfl dX4_bestByCorner_14 h hf (fun a3 ea3 ka3 na3 h => ?_)
    obtain ⟨q4, hq4, h⟩ := bd_of h hf
    refine g_cSI (As := [.int (q1.1 a2 4), .ref (E.2.2.1 a3)]) hC hO (c_X9_greatestOf _ hC.2.2.2.2.2.2.1 (q1.1 a2 4) a3 ka3 na3 q1 (nn_of hq4)) gc_X4_109 (xk_X9_greatestOf _ (Nat.le_of_ble_eq_true rfl) (Nat.le_of_ble_eq_true rfl)) rfl (Nat.le_of_ble_eq_true rfl) dX4_bestByCorner_17 hq4 ?_
    exact g_iret hC hR dX4_bestByCorner_20 rfl h
theorem xk_X4_bestByCorner (R : Room) (h1 : 2 + 1 ≤ R.frames) (h2 : 106 ≤ R.locals) : xw R yX4_bestByCorner w_X4_bestByCorner GT cX4_bestByCorner 3 (some .int) rm_X4_bestByCorner 2 := ⟨rfl, rfl, rfl, h1, h2, ⟨by decide, by decide⟩, by decide +kernel⟩
theorem c_X4_bestByCorner (E : ET) (hE : EO E) (t : Nat) (ht1 : kd t = 4) (ht2 : AL E t) (x1 : Nat) (hx1a : kd x1 = 1) (hx1b : AL E x1) (x2 : Int32) (σ : HS) (hn : f_X4_bestByCorner t x1 x2 σ ≠ none) : CoI E yX4_bestByCorner w_X4_bestByCorner rm_X4_bestByCorner [.ref (E.2.2.1 t), .ref (E.2.2.1 x1), .int x2] σ (f_X4_bestByCorner t x1 x2 σ) := CoI.of (lv := [(0, .ref (E.2.2.1 t)), (1, .ref (E.2.2.1 x1)), (2, .int x2)]) hE (plainFor_of_name (by decide)) rfl (Nat.le_of_ble_eq_true rfl) rfl (fun F hC hO hR => k_X4_bestByCorner_0 hC hO hR hn t ht1 ht2 x1 hx1a hx1b x2 σ rfl)
def rm_X4_surelyBest : Room := { frames := 3, cells := 0, slots := 0, locals := 106 }
theorem fl_X4_50 : Cond.fieldLink RX4 50 "EveryMeasure$Cone" (TX1 5).2.1 (TX1 5).2.2.1 ∈ GT := gtr_37 _ (List.mem_of_getElem? (i := 4) rfl)
theorem wc_X4_bestByCorner : Cond.code yX4_bestByCorner cX4_bestByCorner 3 (some .int) ∈ GT := gtr_40 _ (List.mem_of_getElem? (i := 12) rfl)
theorem gc_X4_113 : GoodIn GT (wsV RX4 113 RX4 yX4_bestByCorner w_X4_bestByCorner) := gi_V (gtr_40 _ (List.mem_of_getElem? (i := 9) rfl)) (gtr_40 _ (List.mem_of_getElem? (i := 10) rfl)) (gtr_40 _ (List.mem_of_getElem? (i := 11) rfl)) (gtr_2 _ (List.mem_of_getElem? (i := 8) rfl)) wc_X4_bestByCorner
set_option maxHeartbeats 4000000 in
set_option maxRecDepth 100000 in
theorem k_X4_surelyBest_37 {E : ET} {F : FT} {fo : Option (Int32 × HS)} (hC : Cx E F 4 cX4_surelyBest RX4 GT) (hO : Ro F rm_X4_surelyBest) (hR : RI E F .int fo) (hf : fo ≠ none) (x2 : Int32) (σ : HS) (h : f_X4_surelyBest_37 x2 σ = fo) : G E F 37 [(2, .int x2)] [] σ := by
    refine g_iload_n hC dX4_surelyBest_37 rfl 0 rfl ?_
    exact g_iret hC hR dX4_surelyBest_38 rfl h
set_option maxHeartbeats 4000000 in
set_option maxRecDepth 100000 in
theorem k_X4_surelyBest_10 {E : ET} {F : FT} {fo : Option (Int32 × HS)} (hC : Cx E F 4 cX4_surelyBest RX4 GT) (hO : Ro F rm_X4_surelyBest) (hR : RI E F .int fo) (hf : fo ≠ none) (t : Nat) (ht1 : kd t = 4) (ht2 : AL E t) (x1 : Nat) (hx1a : kd x1 = 1) (hx1b : AL E x1) : ∀ (n : Nat) (x2 : Int32) (x3 : Int32) (σ : HS), f_X4_surelyBest_10 t x1 n x2 x3 σ = fo → G E F 10 [(0, .ref (E.2.2.1 t)), (1, .ref (E.2.2.1 x1)), (2, .int x2), (3, .int x3)] [] σ := by
  intro n
  induction n with
  | zero =>
    intro x2 x3 σ h
    exact absurd (h.symm.trans rfl) hf
  | succ n ih =>
    intro x2 x3 σ h
    refine g_iload_n hC dX4_surelyBest_10 rfl 3 rfl ?_
    refine g_aload_n hC dX4_surelyBest_11 rfl 1 rfl ?_
    refine g_getI (k := 5) hC cr1 ui_1 hx1a hx1b (by decide) fl_X4_50 rfl rfl dX4_surelyBest_12 ?_
    refine g_icmp_ge (tgt := 37) hC dX4_surelyBest_15 (by decide) h (fun c15 h => ?_) (fun c15 h => ?_)
    · exact g_sub [2] rfl (k_X4_surelyBest_37 hC hO hR hf x2 σ h)
    · refine g_iload_n hC dX4_surelyBest_18 rfl 2 rfl ?_
      refine g_if_eq (tgt := 37) hC dX4_surelyBest_19 (by decide) h (fun c19 h => ?_) (fun c19 h => ?_)
      · exact g_sub [2] rfl (k_X4_surelyBest_37 hC hO hR hf x2 σ h)
      · refine g_iload_n hC dX4_surelyBest_22 rfl 2 rfl ?_
        refine g_aload_n hC dX4_surelyBest_23 rfl 0 rfl ?_
        refine g_aload_n hC dX4_surelyBest_24 rfl 1 rfl ?_
        refine g_iload_n hC dX4_surelyBest_25 rfl 3 rfl ?_
        obtain ⟨q1, hq1, h⟩ := bd_of h hf
        refine g_cVI (As := [.ref (E.2.2.1 x1), .int x3]) hC hO (c_X4_bestByCorner _ hC.2.2.2.2.2.2.1 t ht1 ht2 x1 hx1a hx1b x3 σ (nn_of hq1)) gc_X4_113 (xk_X4_bestByCorner _ (Nat.le_of_ble_eq_true rfl) (Nat.le_of_ble_eq_true rfl)) cr4 ht1 ht2 rfl (Nat.le_of_ble_eq_true rfl) dX4_surelyBest_26 hq1 ?_
        refine g_iand hC dX4_surelyBest_29 ?_
        refine g_istore_n (lv' := [(2, .int (x2 &&& q1.1)), (0, .ref (E.2.2.1 t)), (1, .ref (E.2.2.1 x1)), (3, .int x3)]) hC dX4_surelyBest_30 rfl (by decide) rfl ?_
        refine g_iinc (v := x3 + 1) (lv' := [(3, .int (x3 + 1)), (2, .int (x2 &&& q1.1)), (0, .ref (E.2.2.1 t)), (1, .ref (E.2.2.1 x1))]) hC dX4_surelyBest_31 3 rfl rfl (by decide) rfl ?_
        refine g_goto (tgt := 10) hC dX4_surelyBest_34 (by decide) ?_
        exact g_sub [2, 3, 1, 0] rfl (ih (x2 &&& q1.1) (x3 + 1) q1.2 h)
set_option maxHeartbeats 4000000 in
set_option maxRecDepth 100000 in
theorem k_X4_surelyBest_0 {E : ET} {F : FT} {fo : Option (Int32 × HS)} (hC : Cx E F 4 cX4_surelyBest RX4 GT) (hO : Ro F rm_X4_surelyBest) (hR : RI E F .int fo) (hf : fo ≠ none) (t : Nat) (ht1 : kd t = 4) (ht2 : AL E t) (x1 : Nat) (hx1a : kd x1 = 1) (hx1b : AL E x1) (σ : HS) (h : f_X4_surelyBest t x1 σ = fo) : G E F 0 [(0, .ref (E.2.2.1 t)), (1, .ref (E.2.2.1 x1))] [] σ := by
    refine g_aload_n hC dX4_surelyBest_0 rfl 0 rfl ?_
    refine g_getR (cj := 9) (k := 0) hC cr4 ui_4 ht1 ht2 (by decide) fl_X4_36 rfl rfl dX4_surelyBest_1 h hf (fun a1 ea1 ka1 na1 h => ?_)
    refine g_getI (k := 4) hC cr9 ui_9 ka1 na1 (by decide) fl_X4_106 rfl rfl dX4_surelyBest_4 ?_
    refine g_istore_n (lv' := [(2, .int (σ.1 a1 4)), (0, .ref (E.2.2.1 t)), (1, .ref (E.2.2.1 x1))]) hC dX4_surelyBest_7 rfl (by decide) rfl ?_
    refine g_iconst (v := 0) hC dX4_surelyBest_8 (by decide) ?_
    refine g_istore_n (lv' := [(3, .int 0), (2, .int (σ.1 a1 4)), (0, .ref (E.2.2.1 t)), (1, .ref (E.2.2.1 x1))]) hC dX4_surelyBest_9 rfl (by decide) rfl ?_
    exact g_sub [2, 3, 1, 0] rfl (k_X4_surelyBest_10 hC hO hR hf t ht1 ht2 x1 hx1a hx1b FU (σ.1 a1 4) 0 σ h)
theorem xk_X4_surelyBest (R : Room) (h1 : 3 + 1 ≤ R.frames) (h2 : 141 ≤ R.locals) : xw R yX4_surelyBest w_X4_surelyBest GT cX4_surelyBest 4 (some .int) rm_X4_surelyBest 1 := ⟨rfl, rfl, rfl, h1, h2, ⟨by decide, by decide⟩, by decide +kernel⟩
theorem c_X4_surelyBest (E : ET) (hE : EO E) (t : Nat) (ht1 : kd t = 4) (ht2 : AL E t) (x1 : Nat) (hx1a : kd x1 = 1) (hx1b : AL E x1) (σ : HS) (hn : f_X4_surelyBest t x1 σ ≠ none) : CoI E yX4_surelyBest w_X4_surelyBest rm_X4_surelyBest [.ref (E.2.2.1 t), .ref (E.2.2.1 x1)] σ (f_X4_surelyBest t x1 σ) := CoI.of (lv := [(0, .ref (E.2.2.1 t)), (1, .ref (E.2.2.1 x1))]) hE (plainFor_of_name (by decide)) rfl (Nat.le_of_ble_eq_true rfl) rfl (fun F hC hO hR => k_X4_surelyBest_0 hC hO hR hn t ht1 ht2 x1 hx1a hx1b σ rfl)
