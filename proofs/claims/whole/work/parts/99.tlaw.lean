/-! the law's cases -/
def SC (F : FT) (b L : Nat) (xs : Nat → Int32) : Prop := va_X b L xs F.1.2.2.2.1 F.1.2.2.2.1.heap ∧ b < F.1.2.2.2.1.heap.size ∧ ¬ F.1.2.2.2.2.2.1 b ∧ L ≤ 3584
section GLW
variable {E : ET} {F : FT} {nL : Nat} {cc : ByteArray} {own : String} {Ts : List Cond} {pc : Nat} {lv : List (Nat × Value)} {st : List Value} {σ : HS} {b L : Nat} {xs : Nat → Int32}
theorem g_scr (hC : Cx E F nL cc own Ts) (hX : SC F b L xs) {j : Nat} (k : Nat) {c : Int32} (hc : nI k = c) (hk : 7 * j + k < L) (hd : decode cc pc = .ok (.iaload, 1)) (kk : G E F (pc + 1) lv (.int (xs (7 * j + k)) :: st) σ) : G E F pc lv (.int (nI (7 * j) + c) :: .ref b :: st) σ := by
  intro hwf H locs ls hP hS hl
  have hL := hX.2.2.2
  rw [← hc, nI_add]
  refine va_sld hC.1 hC.2.1 hX.1 hX.2.1 hX.2.2.1 hS (vp_in_nI hk (by omega)) hd ?_
  rw [nI_clamp (by omega)]
  exact kk hwf H locs ls hP hS hl
theorem g_scr0 (hC : Cx E F nL cc own Ts) (hX : SC F b L xs) {j : Nat} (hk : 7 * j < L) (hd : decode cc pc = .ok (.iaload, 1)) (kk : G E F (pc + 1) lv (.int (xs (7 * j)) :: st) σ) : G E F pc lv (.int (nI (7 * j)) :: .ref b :: st) σ := by
  intro hwf H locs ls hP hS hl
  have hL := hX.2.2.2
  refine va_sld hC.1 hC.2.1 hX.1 hX.2.1 hX.2.2.1 hS (vp_in_nI hk (by omega)) hd ?_
  rw [nI_clamp (by omega)]
  exact kk hwf H locs ls hP hS hl
theorem g_slen (hC : Cx E F nL cc own Ts) (hX : SC F b L xs) (hd : decode cc pc = .ok (.arraylength, 1)) (kk : G E F (pc + 1) lv (.int (nI L) :: st) σ) : G E F pc lv (.ref b :: st) σ := fun hwf H locs ls hP hS hl => va_slen hC.1 hC.2.1 hX.1 hX.2.1 hX.2.2.1 hS hd (kk hwf H locs ls hP hS hl)
theorem g_lshl (hC : Cx E F nL cc own Ts) {x : Int64} {y : Int32} (hd : decode cc pc = .ok (.lshl, 1)) (kk : G E F (pc + 1) lv (.long (x <<< (y.toInt64 &&& 63)) :: st) σ) : G E F pc lv (.int y :: .long x :: st) σ := fun hwf H locs ls hP hS hl => lv_lshl hC.1 hC.2.1 hd rfl (kk hwf H locs ls hP hS hl)
theorem g_wid {c n : Nat} (kk : G E (fA F c n) pc lv st σ) : G E F pc lv st σ := fun hwf H locs ls hP hS hl => W.widen (Nat.le_add_right _ _) (Nat.le_add_right _ _) (kk hwf H locs ls hP hS hl)
end GLW
abbrev LV (E : ET) (b j : Nat) : List (Nat × Value) := [(4, .int (nI (7 * j))), (0, .ref b), (1, .ref (E.2.2.1 26)), (2, .ref (E.2.2.1 0)), (3, .ref (E.2.2.1 25))]
/-- what the law's walk stands on -/
def LF (E : ET) (K : KT) (b L : Nat) (xs : Nat → Int32) (F : FT) : Prop := Cx E F 8 cL_law RL GT ∧ Ro F room_1 ∧ SC F b L xs ∧ KS K F.1.2.2.2.2.2.1 F.1.2.2.2.1 ∧ TX F ∧ (∀ a, a < 170 → AL E a) ∧ E.1.stackTraces = false
theorem wc_X11_measures : Cond.code yX11_measures cX11_measures 2 (some .boolean) ∈ GT := gtr_11 _ (List.mem_of_getElem? (i := 0) rfl)
theorem gc_L_23 : GoodIn GT (wsV RL 23 RX11 yX11_measures w_X11_measures) := gi_V (gtr_10 _ (List.mem_of_getElem? (i := 21) rfl)) (gtr_10 _ (List.mem_of_getElem? (i := 22) rfl)) (gtr_10 _ (List.mem_of_getElem? (i := 23) rfl)) (gtr_1 _ (List.mem_of_getElem? (i := 2) rfl)) wc_X11_measures
theorem wc_X12_measures : Cond.code yX12_measures cX12_measures 2 (some .boolean) ∈ GT := gtr_11 _ (List.mem_of_getElem? (i := 4) rfl)
theorem gc_L_27 : GoodIn GT (wsV RL 27 RX12 yX12_measures w_X12_measures) := gi_V (gtr_11 _ (List.mem_of_getElem? (i := 1) rfl)) (gtr_11 _ (List.mem_of_getElem? (i := 2) rfl)) (gtr_11 _ (List.mem_of_getElem? (i := 3) rfl)) (gtr_1 _ (List.mem_of_getElem? (i := 5) rfl)) wc_X12_measures
set_option maxHeartbeats 4000000 in
set_option maxRecDepth 100000 in
theorem lw_c0 {E : ET} {F : FT} {K : KT} {b L : Nat} {xs : Nat → Int32} (hF : LF E K b L xs F) (j : Nat) (hj : 7 * j + 7 ≤ L) (σ : HS) (hI : Inv σ) (kk : ∀ σ', Inv σ' → G E F 1492 (LV E b j) [] σ') : G E F 188 (LV E b j) [] σ := by
  obtain ⟨hC, hO, hX, hK, hT, al, htr⟩ := hF
  obtain ⟨v, σ1, σ2, h1, h2, h3⟩ := inv_measures (xs (7 * j + 1)) hI
  refine g_aload_n hC dL_law_188 rfl 2 rfl ?_
  refine g_aload_n hC dL_law_189 rfl 1 rfl ?_
  refine g_iload hC dL_law_190 0 rfl ?_
  refine g_iconst (v := 1) hC dL_law_192 (by decide) ?_
  refine g_iadd hC dL_law_193 ?_
  refine g_scr hC hX 1 (by decide) (by omega) dL_law_194 ?_
  refine g_cVI (As := [.int (xs (7 * j + 1))]) hC hO (c_X11_measures _ hC.2.2.2.2.2.2.1 26 rfl (al 26 (by decide)) (xs (7 * j + 1)) σ (nn_of h1)) gc_L_23 (xk_X11_measures _ (Nat.le_of_ble_eq_true rfl) (Nat.le_of_ble_eq_true rfl)) cr11 rfl (al 26 (by decide)) rfl (Nat.le_of_ble_eq_true rfl) dL_law_195 h1 ?_
  refine g_aload_n hC dL_law_198 rfl 3 rfl ?_
  refine g_aload_n hC dL_law_199 rfl 1 rfl ?_
  refine g_iload hC dL_law_200 0 rfl ?_
  refine g_iconst (v := 1) hC dL_law_202 (by decide) ?_
  refine g_iadd hC dL_law_203 ?_
  refine g_scr hC hX 1 (by decide) (by omega) dL_law_204 ?_
  refine g_cVI (As := [.int (xs (7 * j + 1))]) hC hO (c_X12_measures _ hC.2.2.2.2.2.2.1 0 rfl (al 0 (by decide)) (xs (7 * j + 1)) σ1 (nn_of h2)) gc_L_27 (xk_X12_measures _ (Nat.le_of_ble_eq_true rfl) (Nat.le_of_ble_eq_true rfl)) cr12 rfl (al 0 (by decide)) rfl (Nat.le_of_ble_eq_true rfl) dL_law_205 h2 ?_
  refine g_icmp_eq (tgt := 1492) (a := some ()) (b := none) (fo := some ()) hC dL_law_208 (by decide) (if_pos rfl) (fun _ _ => ?_) (fun c _ => absurd rfl c)
  exact kk _ h3
theorem wc_X11_thing : Cond.code yX11_thing cX11_thing 6 (some .boolean) ∈ GT := gtr_11 _ (List.mem_of_getElem? (i := 12) rfl)
theorem gc_L_28 : GoodIn GT (wsV RL 28 RX11 yX11_thing w_X11_thing) := gi_V (gtr_11 _ (List.mem_of_getElem? (i := 9) rfl)) (gtr_11 _ (List.mem_of_getElem? (i := 10) rfl)) (gtr_11 _ (List.mem_of_getElem? (i := 11) rfl)) (gtr_1 _ (List.mem_of_getElem? (i := 2) rfl)) wc_X11_thing
theorem wc_X12_thing : Cond.code yX12_thing cX12_thing 7 (some .boolean) ∈ GT := gtr_12 _ (List.mem_of_getElem? (i := 0) rfl)
theorem gc_L_32 : GoodIn GT (wsV RL 32 RX12 yX12_thing w_X12_thing) := gi_V (gtr_11 _ (List.mem_of_getElem? (i := 21) rfl)) (gtr_11 _ (List.mem_of_getElem? (i := 22) rfl)) (gtr_11 _ (List.mem_of_getElem? (i := 23) rfl)) (gtr_1 _ (List.mem_of_getElem? (i := 5) rfl)) wc_X12_thing
set_option maxHeartbeats 4000000 in
set_option maxRecDepth 100000 in
theorem lw_c1 {E : ET} {F : FT} {K : KT} {b L : Nat} {xs : Nat → Int32} (hF : LF E K b L xs F) (j : Nat) (hj : 7 * j + 7 ≤ L) (σ : HS) (hI : Inv σ) (kk : ∀ σ', Inv σ' → G E F 1492 (LV E b j) [] σ') : G E F 213 (LV E b j) [] σ := by
  obtain ⟨hC, hO, hX, hK, hT, al, htr⟩ := hF
  obtain ⟨v, σ1, σ2, h1, h2, h3⟩ := inv_thing (xs (7 * j + 1)) (xs (7 * j + 2)) (xs (7 * j + 3)) (xs (7 * j + 4)) (xs (7 * j + 5)) hI
  refine g_aload_n hC dL_law_213 rfl 2 rfl ?_
  refine g_aload_n hC dL_law_214 rfl 1 rfl ?_
  refine g_iload hC dL_law_215 0 rfl ?_
  refine g_iconst (v := 1) hC dL_law_217 (by decide) ?_
  refine g_iadd hC dL_law_218 ?_
  refine g_scr hC hX 1 (by decide) (by omega) dL_law_219 ?_
  refine g_aload_n hC dL_law_220 rfl 1 rfl ?_
  refine g_iload hC dL_law_221 0 rfl ?_
  refine g_iconst (v := 2) hC dL_law_223 (by decide) ?_
  refine g_iadd hC dL_law_224 ?_
  refine g_scr hC hX 2 (by decide) (by omega) dL_law_225 ?_
  refine g_aload_n hC dL_law_226 rfl 1 rfl ?_
  refine g_iload hC dL_law_227 0 rfl ?_
  refine g_iconst (v := 3) hC dL_law_229 (by decide) ?_
  refine g_iadd hC dL_law_230 ?_
  refine g_scr hC hX 3 (by decide) (by omega) dL_law_231 ?_
  refine g_aload_n hC dL_law_232 rfl 1 rfl ?_
  refine g_iload hC dL_law_233 0 rfl ?_
  refine g_iconst (v := 4) hC dL_law_235 (by decide) ?_
  refine g_iadd hC dL_law_236 ?_
  refine g_scr hC hX 4 (by decide) (by omega) dL_law_237 ?_
  refine g_aload_n hC dL_law_238 rfl 1 rfl ?_
  refine g_iload hC dL_law_239 0 rfl ?_
  refine g_iconst (v := 5) hC dL_law_241 (by decide) ?_
  refine g_iadd hC dL_law_242 ?_
  refine g_scr hC hX 5 (by decide) (by omega) dL_law_243 ?_
  refine g_cVI (As := [.int (xs (7 * j + 1)), .int (xs (7 * j + 2)), .int (xs (7 * j + 3)), .int (xs (7 * j + 4)), .int (xs (7 * j + 5))]) hC hO (c_X11_thing _ hC.2.2.2.2.2.2.1 26 rfl (al 26 (by decide)) (xs (7 * j + 1)) (xs (7 * j + 2)) (xs (7 * j + 3)) (xs (7 * j + 4)) (xs (7 * j + 5)) σ (nn_of h1)) gc_L_28 (xk_X11_thing _ (Nat.le_of_ble_eq_true rfl) (Nat.le_of_ble_eq_true rfl)) cr11 rfl (al 26 (by decide)) rfl (Nat.le_of_ble_eq_true rfl) dL_law_244 h1 ?_
  refine g_aload_n hC dL_law_247 rfl 3 rfl ?_
  refine g_aload_n hC dL_law_248 rfl 1 rfl ?_
  refine g_iload hC dL_law_249 0 rfl ?_
  refine g_iconst (v := 1) hC dL_law_251 (by decide) ?_
  refine g_iadd hC dL_law_252 ?_
  refine g_scr hC hX 1 (by decide) (by omega) dL_law_253 ?_
  refine g_aload_n hC dL_law_254 rfl 1 rfl ?_
  refine g_iload hC dL_law_255 0 rfl ?_
  refine g_iconst (v := 2) hC dL_law_257 (by decide) ?_
  refine g_iadd hC dL_law_258 ?_
  refine g_scr hC hX 2 (by decide) (by omega) dL_law_259 ?_
  refine g_aload_n hC dL_law_260 rfl 1 rfl ?_
  refine g_iload hC dL_law_261 0 rfl ?_
  refine g_iconst (v := 3) hC dL_law_263 (by decide) ?_
  refine g_iadd hC dL_law_264 ?_
  refine g_scr hC hX 3 (by decide) (by omega) dL_law_265 ?_
  refine g_aload_n hC dL_law_266 rfl 1 rfl ?_
  refine g_iload hC dL_law_267 0 rfl ?_
  refine g_iconst (v := 4) hC dL_law_269 (by decide) ?_
  refine g_iadd hC dL_law_270 ?_
  refine g_scr hC hX 4 (by decide) (by omega) dL_law_271 ?_
  refine g_aload_n hC dL_law_272 rfl 1 rfl ?_
  refine g_iload hC dL_law_273 0 rfl ?_
  refine g_iconst (v := 5) hC dL_law_275 (by decide) ?_
  refine g_iadd hC dL_law_276 ?_
  refine g_scr hC hX 5 (by decide) (by omega) dL_law_277 ?_
  refine g_cVI (As := [.int (xs (7 * j + 1)), .int (xs (7 * j + 2)), .int (xs (7 * j + 3)), .int (xs (7 * j + 4)), .int (xs (7 * j + 5))]) hC hO (c_X12_thing _ hC.2.2.2.2.2.2.1 0 rfl (al 0 (by decide)) (xs (7 * j + 1)) (xs (7 * j + 2)) (xs (7 * j + 3)) (xs (7 * j + 4)) (xs (7 * j + 5)) σ1 (nn_of h2)) gc_L_32 (xk_X12_thing _ (Nat.le_of_ble_eq_true rfl) (Nat.le_of_ble_eq_true rfl)) cr12 rfl (al 0 (by decide)) rfl (Nat.le_of_ble_eq_true rfl) dL_law_278 h2 ?_
  refine g_icmp_eq (tgt := 1492) (a := some ()) (b := none) (fo := some ()) hC dL_law_281 (by decide) (if_pos rfl) (fun _ _ => ?_) (fun c _ => absurd rfl c)
  exact kk _ h3
theorem wc_X11_drop : Cond.code yX11_drop cX11_drop 2 (some .boolean) ∈ GT := gtr_12 _ (List.mem_of_getElem? (i := 4) rfl)
theorem gc_L_33 : GoodIn GT (wsV RL 33 RX11 yX11_drop w_X11_drop) := gi_V (gtr_12 _ (List.mem_of_getElem? (i := 1) rfl)) (gtr_12 _ (List.mem_of_getElem? (i := 2) rfl)) (gtr_12 _ (List.mem_of_getElem? (i := 3) rfl)) (gtr_1 _ (List.mem_of_getElem? (i := 2) rfl)) wc_X11_drop
theorem wc_X12_drop : Cond.code yX12_drop cX12_drop 2 (some .boolean) ∈ GT := gtr_12 _ (List.mem_of_getElem? (i := 12) rfl)
theorem gc_L_36 : GoodIn GT (wsV RL 36 RX12 yX12_drop w_X12_drop) := gi_V (gtr_12 _ (List.mem_of_getElem? (i := 9) rfl)) (gtr_12 _ (List.mem_of_getElem? (i := 10) rfl)) (gtr_12 _ (List.mem_of_getElem? (i := 11) rfl)) (gtr_1 _ (List.mem_of_getElem? (i := 5) rfl)) wc_X12_drop
set_option maxHeartbeats 4000000 in
set_option maxRecDepth 100000 in
theorem lw_c2 {E : ET} {F : FT} {K : KT} {b L : Nat} {xs : Nat → Int32} (hF : LF E K b L xs F) (j : Nat) (hj : 7 * j + 7 ≤ L) (σ : HS) (hI : Inv σ) (kk : ∀ σ', Inv σ' → G E F 1492 (LV E b j) [] σ') : G E F 286 (LV E b j) [] σ := by
  obtain ⟨hC, hO, hX, hK, hT, al, htr⟩ := hF
  obtain ⟨v, σ1, σ2, h1, h2, h3⟩ := inv_drop (xs (7 * j + 1)) hI
  refine g_aload_n hC dL_law_286 rfl 2 rfl ?_
  refine g_aload_n hC dL_law_287 rfl 1 rfl ?_
  refine g_iload hC dL_law_288 0 rfl ?_
  refine g_iconst (v := 1) hC dL_law_290 (by decide) ?_
  refine g_iadd hC dL_law_291 ?_
  refine g_scr hC hX 1 (by decide) (by omega) dL_law_292 ?_
  refine g_cVI (As := [.int (xs (7 * j + 1))]) hC hO (c_X11_drop _ hC.2.2.2.2.2.2.1 26 rfl (al 26 (by decide)) (xs (7 * j + 1)) σ (nn_of h1)) gc_L_33 (xk_X11_drop _ (Nat.le_of_ble_eq_true rfl) (Nat.le_of_ble_eq_true rfl)) cr11 rfl (al 26 (by decide)) rfl (Nat.le_of_ble_eq_true rfl) dL_law_293 h1 ?_
  refine g_aload_n hC dL_law_296 rfl 3 rfl ?_
  refine g_aload_n hC dL_law_297 rfl 1 rfl ?_
  refine g_iload hC dL_law_298 0 rfl ?_
  refine g_iconst (v := 1) hC dL_law_300 (by decide) ?_
  refine g_iadd hC dL_law_301 ?_
  refine g_scr hC hX 1 (by decide) (by omega) dL_law_302 ?_
  refine g_cVI (As := [.int (xs (7 * j + 1))]) hC hO (c_X12_drop _ hC.2.2.2.2.2.2.1 0 rfl (al 0 (by decide)) (xs (7 * j + 1)) σ1 (nn_of h2)) gc_L_36 (xk_X12_drop _ (Nat.le_of_ble_eq_true rfl) (Nat.le_of_ble_eq_true rfl)) cr12 rfl (al 0 (by decide)) rfl (Nat.le_of_ble_eq_true rfl) dL_law_303 h2 ?_
  refine g_icmp_eq (tgt := 1492) (a := some ()) (b := none) (fo := some ()) hC dL_law_306 (by decide) (if_pos rfl) (fun _ _ => ?_) (fun c _ => absurd rfl c)
  exact kk _ h3
theorem wc_X11_feed : Cond.code yX11_feed cX11_feed 7 (some .int) ∈ GT := gtr_12 _ (List.mem_of_getElem? (i := 20) rfl)
theorem gc_L_39 : GoodIn GT (wsV RL 39 RX11 yX11_feed w_X11_feed) := gi_V (gtr_12 _ (List.mem_of_getElem? (i := 17) rfl)) (gtr_12 _ (List.mem_of_getElem? (i := 18) rfl)) (gtr_12 _ (List.mem_of_getElem? (i := 19) rfl)) (gtr_1 _ (List.mem_of_getElem? (i := 2) rfl)) wc_X11_feed
theorem wc_X12_feed : Cond.code yX12_feed cX12_feed 7 (some .int) ∈ GT := gtr_13 _ (List.mem_of_getElem? (i := 5) rfl)
theorem gc_L_43 : GoodIn GT (wsV RL 43 RX12 yX12_feed w_X12_feed) := gi_V (gtr_13 _ (List.mem_of_getElem? (i := 2) rfl)) (gtr_13 _ (List.mem_of_getElem? (i := 3) rfl)) (gtr_13 _ (List.mem_of_getElem? (i := 4) rfl)) (gtr_1 _ (List.mem_of_getElem? (i := 5) rfl)) wc_X12_feed
set_option maxHeartbeats 4000000 in
set_option maxRecDepth 100000 in
theorem lw_c3 {E : ET} {F : FT} {K : KT} {b L : Nat} {xs : Nat → Int32} (hF : LF E K b L xs F) (j : Nat) (hj : 7 * j + 7 ≤ L) (σ : HS) (hI : Inv σ) (kk : ∀ σ', Inv σ' → G E F 1492 (LV E b j) [] σ') : G E F 311 (LV E b j) [] σ := by
  obtain ⟨hC, hO, hX, hK, hT, al, htr⟩ := hF
  obtain ⟨v, σ1, σ2, h1, h2, h3⟩ := inv_feed ((((xs (7 * j + 1)).toInt64) <<< ((32 : Int32).toInt64 &&& 63)) ||| (((xs (7 * j + 2)).toInt64) &&& (4294967295))) ((((xs (7 * j + 3)).toInt64) <<< ((32 : Int32).toInt64 &&& 63)) ||| (((xs (7 * j + 4)).toInt64) &&& (4294967295))) ((((xs (7 * j + 5)).toInt64) <<< ((32 : Int32).toInt64 &&& 63)) ||| (((xs (7 * j + 6)).toInt64) &&& (4294967295))) hI
  refine g_aload_n hC dL_law_311 rfl 2 rfl ?_
  refine g_aload_n hC dL_law_312 rfl 1 rfl ?_
  refine g_iload hC dL_law_313 0 rfl ?_
  refine g_iconst (v := 1) hC dL_law_315 (by decide) ?_
  refine g_iadd hC dL_law_316 ?_
  refine g_scr hC hX 1 (by decide) (by omega) dL_law_317 ?_
  refine g_i2l hC dL_law_318 ?_
  refine g_bipush (v := 32) hC dL_law_319 (by decide) ?_
  refine g_lshl hC dL_law_321 ?_
  refine g_aload_n hC dL_law_322 rfl 1 rfl ?_
  refine g_iload hC dL_law_323 0 rfl ?_
  refine g_iconst (v := 2) hC dL_law_325 (by decide) ?_
  refine g_iadd hC dL_law_326 ?_
  refine g_scr hC hX 2 (by decide) (by omega) dL_law_327 ?_
  refine g_i2l hC dL_law_328 ?_
  refine g_ldc2 (v := 4294967295) hC (gtr_1 _ (List.mem_of_getElem? (i := 7) rfl)) dL_law_329 ?_
  refine g_land hC dL_law_332 ?_
  refine g_lor hC dL_law_333 ?_
  refine g_aload_n hC dL_law_334 rfl 1 rfl ?_
  refine g_iload hC dL_law_335 0 rfl ?_
  refine g_iconst (v := 3) hC dL_law_337 (by decide) ?_
  refine g_iadd hC dL_law_338 ?_
  refine g_scr hC hX 3 (by decide) (by omega) dL_law_339 ?_
  refine g_i2l hC dL_law_340 ?_
  refine g_bipush (v := 32) hC dL_law_341 (by decide) ?_
  refine g_lshl hC dL_law_343 ?_
  refine g_aload_n hC dL_law_344 rfl 1 rfl ?_
  refine g_iload hC dL_law_345 0 rfl ?_
  refine g_iconst (v := 4) hC dL_law_347 (by decide) ?_
  refine g_iadd hC dL_law_348 ?_
  refine g_scr hC hX 4 (by decide) (by omega) dL_law_349 ?_
  refine g_i2l hC dL_law_350 ?_
  refine g_ldc2 (v := 4294967295) hC (gtr_1 _ (List.mem_of_getElem? (i := 7) rfl)) dL_law_351 ?_
  refine g_land hC dL_law_354 ?_
  refine g_lor hC dL_law_355 ?_
  refine g_aload_n hC dL_law_356 rfl 1 rfl ?_
  refine g_iload hC dL_law_357 0 rfl ?_
  refine g_iconst (v := 5) hC dL_law_359 (by decide) ?_
  refine g_iadd hC dL_law_360 ?_
  refine g_scr hC hX 5 (by decide) (by omega) dL_law_361 ?_
  refine g_i2l hC dL_law_362 ?_
  refine g_bipush (v := 32) hC dL_law_363 (by decide) ?_
  refine g_lshl hC dL_law_365 ?_
  refine g_aload_n hC dL_law_366 rfl 1 rfl ?_
  refine g_iload hC dL_law_367 0 rfl ?_
  refine g_bipush (v := 6) hC dL_law_369 (by decide) ?_
  refine g_iadd hC dL_law_371 ?_
  refine g_scr hC hX 6 (by decide) (by omega) dL_law_372 ?_
  refine g_i2l hC dL_law_373 ?_
  refine g_ldc2 (v := 4294967295) hC (gtr_1 _ (List.mem_of_getElem? (i := 7) rfl)) dL_law_374 ?_
  refine g_land hC dL_law_377 ?_
  refine g_lor hC dL_law_378 ?_
  refine g_cVI (As := [.long ((((xs (7 * j + 1)).toInt64) <<< ((32 : Int32).toInt64 &&& 63)) ||| (((xs (7 * j + 2)).toInt64) &&& (4294967295))), .long ((((xs (7 * j + 3)).toInt64) <<< ((32 : Int32).toInt64 &&& 63)) ||| (((xs (7 * j + 4)).toInt64) &&& (4294967295))), .long ((((xs (7 * j + 5)).toInt64) <<< ((32 : Int32).toInt64 &&& 63)) ||| (((xs (7 * j + 6)).toInt64) &&& (4294967295)))]) hC hO (c_X11_feed _ hC.2.2.2.2.2.2.1 26 rfl (al 26 (by decide)) ((((xs (7 * j + 1)).toInt64) <<< ((32 : Int32).toInt64 &&& 63)) ||| (((xs (7 * j + 2)).toInt64) &&& (4294967295))) ((((xs (7 * j + 3)).toInt64) <<< ((32 : Int32).toInt64 &&& 63)) ||| (((xs (7 * j + 4)).toInt64) &&& (4294967295))) ((((xs (7 * j + 5)).toInt64) <<< ((32 : Int32).toInt64 &&& 63)) ||| (((xs (7 * j + 6)).toInt64) &&& (4294967295))) σ (nn_of h1)) gc_L_39 (xk_X11_feed _ (Nat.le_of_ble_eq_true rfl) (Nat.le_of_ble_eq_true rfl)) cr11 rfl (al 26 (by decide)) rfl (Nat.le_of_ble_eq_true rfl) dL_law_379 h1 ?_
  refine g_aload_n hC dL_law_382 rfl 3 rfl ?_
  refine g_aload_n hC dL_law_383 rfl 1 rfl ?_
  refine g_iload hC dL_law_384 0 rfl ?_
  refine g_iconst (v := 1) hC dL_law_386 (by decide) ?_
  refine g_iadd hC dL_law_387 ?_
  refine g_scr hC hX 1 (by decide) (by omega) dL_law_388 ?_
  refine g_i2l hC dL_law_389 ?_
  refine g_bipush (v := 32) hC dL_law_390 (by decide) ?_
  refine g_lshl hC dL_law_392 ?_
  refine g_aload_n hC dL_law_393 rfl 1 rfl ?_
  refine g_iload hC dL_law_394 0 rfl ?_
  refine g_iconst (v := 2) hC dL_law_396 (by decide) ?_
  refine g_iadd hC dL_law_397 ?_
  refine g_scr hC hX 2 (by decide) (by omega) dL_law_398 ?_
  refine g_i2l hC dL_law_399 ?_
  refine g_ldc2 (v := 4294967295) hC (gtr_1 _ (List.mem_of_getElem? (i := 7) rfl)) dL_law_400 ?_
  refine g_land hC dL_law_403 ?_
  refine g_lor hC dL_law_404 ?_
  refine g_aload_n hC dL_law_405 rfl 1 rfl ?_
  refine g_iload hC dL_law_406 0 rfl ?_
  refine g_iconst (v := 3) hC dL_law_408 (by decide) ?_
  refine g_iadd hC dL_law_409 ?_
  refine g_scr hC hX 3 (by decide) (by omega) dL_law_410 ?_
  refine g_i2l hC dL_law_411 ?_
  refine g_bipush (v := 32) hC dL_law_412 (by decide) ?_
  refine g_lshl hC dL_law_414 ?_
  refine g_aload_n hC dL_law_415 rfl 1 rfl ?_
  refine g_iload hC dL_law_416 0 rfl ?_
  refine g_iconst (v := 4) hC dL_law_418 (by decide) ?_
  refine g_iadd hC dL_law_419 ?_
  refine g_scr hC hX 4 (by decide) (by omega) dL_law_420 ?_
  refine g_i2l hC dL_law_421 ?_
  refine g_ldc2 (v := 4294967295) hC (gtr_1 _ (List.mem_of_getElem? (i := 7) rfl)) dL_law_422 ?_
  refine g_land hC dL_law_425 ?_
  refine g_lor hC dL_law_426 ?_
  refine g_aload_n hC dL_law_427 rfl 1 rfl ?_
  refine g_iload hC dL_law_428 0 rfl ?_
  refine g_iconst (v := 5) hC dL_law_430 (by decide) ?_
  refine g_iadd hC dL_law_431 ?_
  refine g_scr hC hX 5 (by decide) (by omega) dL_law_432 ?_
  refine g_i2l hC dL_law_433 ?_
  refine g_bipush (v := 32) hC dL_law_434 (by decide) ?_
  refine g_lshl hC dL_law_436 ?_
  refine g_aload_n hC dL_law_437 rfl 1 rfl ?_
  refine g_iload hC dL_law_438 0 rfl ?_
  refine g_bipush (v := 6) hC dL_law_440 (by decide) ?_
  refine g_iadd hC dL_law_442 ?_
  refine g_scr hC hX 6 (by decide) (by omega) dL_law_443 ?_
  refine g_i2l hC dL_law_444 ?_
  refine g_ldc2 (v := 4294967295) hC (gtr_1 _ (List.mem_of_getElem? (i := 7) rfl)) dL_law_445 ?_
  refine g_land hC dL_law_448 ?_
  refine g_lor hC dL_law_449 ?_
  refine g_cVI (As := [.long ((((xs (7 * j + 1)).toInt64) <<< ((32 : Int32).toInt64 &&& 63)) ||| (((xs (7 * j + 2)).toInt64) &&& (4294967295))), .long ((((xs (7 * j + 3)).toInt64) <<< ((32 : Int32).toInt64 &&& 63)) ||| (((xs (7 * j + 4)).toInt64) &&& (4294967295))), .long ((((xs (7 * j + 5)).toInt64) <<< ((32 : Int32).toInt64 &&& 63)) ||| (((xs (7 * j + 6)).toInt64) &&& (4294967295)))]) hC hO (c_X12_feed _ hC.2.2.2.2.2.2.1 0 rfl (al 0 (by decide)) ((((xs (7 * j + 1)).toInt64) <<< ((32 : Int32).toInt64 &&& 63)) ||| (((xs (7 * j + 2)).toInt64) &&& (4294967295))) ((((xs (7 * j + 3)).toInt64) <<< ((32 : Int32).toInt64 &&& 63)) ||| (((xs (7 * j + 4)).toInt64) &&& (4294967295))) ((((xs (7 * j + 5)).toInt64) <<< ((32 : Int32).toInt64 &&& 63)) ||| (((xs (7 * j + 6)).toInt64) &&& (4294967295))) σ1 (nn_of h2)) gc_L_43 (xk_X12_feed _ (Nat.le_of_ble_eq_true rfl) (Nat.le_of_ble_eq_true rfl)) cr12 rfl (al 0 (by decide)) rfl (Nat.le_of_ble_eq_true rfl) dL_law_450 h2 ?_
  refine g_icmp_eq (tgt := 1492) (a := some ()) (b := none) (fo := some ()) hC dL_law_453 (by decide) (if_pos rfl) (fun _ _ => ?_) (fun c _ => absurd rfl c)
  exact kk _ h3
theorem wc_X11_choice : Cond.code yX11_choice cX11_choice 3 (some .int) ∈ GT := gtr_13 _ (List.mem_of_getElem? (i := 14) rfl)
theorem gc_L_44 : GoodIn GT (wsV RL 44 RX11 yX11_choice w_X11_choice) := gi_V (gtr_13 _ (List.mem_of_getElem? (i := 11) rfl)) (gtr_13 _ (List.mem_of_getElem? (i := 12) rfl)) (gtr_13 _ (List.mem_of_getElem? (i := 13) rfl)) (gtr_1 _ (List.mem_of_getElem? (i := 2) rfl)) wc_X11_choice
theorem wc_X12_choice : Cond.code yX12_choice cX12_choice 1 (some .int) ∈ GT := gtr_19 _ (List.mem_of_getElem? (i := 10) rfl)
theorem gc_L_48 : GoodIn GT (wsV RL 48 RX12 yX12_choice w_X12_choice) := gi_V (gtr_19 _ (List.mem_of_getElem? (i := 7) rfl)) (gtr_19 _ (List.mem_of_getElem? (i := 8) rfl)) (gtr_19 _ (List.mem_of_getElem? (i := 9) rfl)) (gtr_1 _ (List.mem_of_getElem? (i := 5) rfl)) wc_X12_choice
set_option maxHeartbeats 4000000 in
set_option maxRecDepth 100000 in
theorem lw_c4 {E : ET} {F : FT} {K : KT} {b L : Nat} {xs : Nat → Int32} (hF : LF E K b L xs F) (j : Nat) (hj : 7 * j + 7 ≤ L) (σ : HS) (hI : Inv σ) (kk : ∀ σ', Inv σ' → G E F 1492 (LV E b j) [] σ') : G E F 458 (LV E b j) [] σ := by
  obtain ⟨hC, hO, hX, hK, hT, al, htr⟩ := hF
  obtain ⟨v, σ1, σ2, h1, h2, h3⟩ := inv_choice  hI
  refine g_aload_n hC dL_law_458 rfl 2 rfl ?_
  refine g_xVI (As := []) hC hO hK (c_X11_choice _ hC.2.2.2.2.2.2.1 K 26 rfl (al 26 (by decide))  σ (nn_of h1)) gc_L_44 (xk_X11_choice _ (Nat.le_of_ble_eq_true rfl) (Nat.le_of_ble_eq_true rfl)) (rb_al hC cr11 rfl (al 26 (by decide))) rfl (Nat.le_of_ble_eq_true rfl) dL_law_459 h1 ?_
  refine g_aload_n hC dL_law_462 rfl 3 rfl ?_
  refine g_cVI (As := []) hC hO (c_X12_choice _ hC.2.2.2.2.2.2.1 0 rfl (al 0 (by decide))  σ1 (nn_of h2)) gc_L_48 (xk_X12_choice _ (Nat.le_of_ble_eq_true rfl) (Nat.le_of_ble_eq_true rfl)) cr12 rfl (al 0 (by decide)) rfl (Nat.le_of_ble_eq_true rfl) dL_law_463 h2 ?_
  refine g_icmp_eq (tgt := 1492) (a := some ()) (b := none) (fo := some ()) hC dL_law_466 (by decide) (if_pos rfl) (fun _ _ => ?_) (fun c _ => absurd rfl c)
  exact kk _ h3
theorem wc_X11_voices : Cond.code yX11_voices cX11_voices 2 (some .boolean) ∈ GT := gtr_22 _ (List.mem_of_getElem? (i := 4) rfl)
theorem gc_L_49 : GoodIn GT (wsV RL 49 RX11 yX11_voices w_X11_voices) := gi_V (gtr_22 _ (List.mem_of_getElem? (i := 1) rfl)) (gtr_22 _ (List.mem_of_getElem? (i := 2) rfl)) (gtr_22 _ (List.mem_of_getElem? (i := 3) rfl)) (gtr_1 _ (List.mem_of_getElem? (i := 2) rfl)) wc_X11_voices
theorem wc_X12_voices : Cond.code yX12_voices cX12_voices 2 (some .boolean) ∈ GT := gtr_22 _ (List.mem_of_getElem? (i := 8) rfl)
theorem gc_L_52 : GoodIn GT (wsV RL 52 RX12 yX12_voices w_X12_voices) := gi_V (gtr_22 _ (List.mem_of_getElem? (i := 5) rfl)) (gtr_22 _ (List.mem_of_getElem? (i := 6) rfl)) (gtr_22 _ (List.mem_of_getElem? (i := 7) rfl)) (gtr_1 _ (List.mem_of_getElem? (i := 5) rfl)) wc_X12_voices
set_option maxHeartbeats 4000000 in
set_option maxRecDepth 100000 in
theorem lw_c5 {E : ET} {F : FT} {K : KT} {b L : Nat} {xs : Nat → Int32} (hF : LF E K b L xs F) (j : Nat) (hj : 7 * j + 7 ≤ L) (σ : HS) (hI : Inv σ) (kk : ∀ σ', Inv σ' → G E F 1492 (LV E b j) [] σ') : G E F 471 (LV E b j) [] σ := by
  obtain ⟨hC, hO, hX, hK, hT, al, htr⟩ := hF
  obtain ⟨v, σ1, σ2, h1, h2, h3⟩ := inv_voices (xs (7 * j + 1)) hI
  refine g_aload_n hC dL_law_471 rfl 2 rfl ?_
  refine g_aload_n hC dL_law_472 rfl 1 rfl ?_
  refine g_iload hC dL_law_473 0 rfl ?_
  refine g_iconst (v := 1) hC dL_law_475 (by decide) ?_
  refine g_iadd hC dL_law_476 ?_
  refine g_scr hC hX 1 (by decide) (by omega) dL_law_477 ?_
  refine g_cVI (As := [.int (xs (7 * j + 1))]) hC hO (c_X11_voices _ hC.2.2.2.2.2.2.1 26 rfl (al 26 (by decide)) (xs (7 * j + 1)) σ (nn_of h1)) gc_L_49 (xk_X11_voices _ (Nat.le_of_ble_eq_true rfl) (Nat.le_of_ble_eq_true rfl)) cr11 rfl (al 26 (by decide)) rfl (Nat.le_of_ble_eq_true rfl) dL_law_478 h1 ?_
  refine g_aload_n hC dL_law_481 rfl 3 rfl ?_
  refine g_aload_n hC dL_law_482 rfl 1 rfl ?_
  refine g_iload hC dL_law_483 0 rfl ?_
  refine g_iconst (v := 1) hC dL_law_485 (by decide) ?_
  refine g_iadd hC dL_law_486 ?_
  refine g_scr hC hX 1 (by decide) (by omega) dL_law_487 ?_
  refine g_cVI (As := [.int (xs (7 * j + 1))]) hC hO (c_X12_voices _ hC.2.2.2.2.2.2.1 0 rfl (al 0 (by decide)) (xs (7 * j + 1)) σ1 (nn_of h2)) gc_L_52 (xk_X12_voices _ (Nat.le_of_ble_eq_true rfl) (Nat.le_of_ble_eq_true rfl)) cr12 rfl (al 0 (by decide)) rfl (Nat.le_of_ble_eq_true rfl) dL_law_488 h2 ?_
  refine g_icmp_eq (tgt := 1492) (a := some ()) (b := none) (fo := some ()) hC dL_law_491 (by decide) (if_pos rfl) (fun _ _ => ?_) (fun c _ => absurd rfl c)
  exact kk _ h3
theorem wc_X11_standing : Cond.code yX11_standing cX11_standing 2 (some .int) ∈ GT := gtr_27 _ (List.mem_of_getElem? (i := 12) rfl)
theorem gc_L_62 : GoodIn GT (wsV RL 62 RX11 yX11_standing w_X11_standing) := gi_V (gtr_27 _ (List.mem_of_getElem? (i := 9) rfl)) (gtr_27 _ (List.mem_of_getElem? (i := 10) rfl)) (gtr_27 _ (List.mem_of_getElem? (i := 11) rfl)) (gtr_1 _ (List.mem_of_getElem? (i := 2) rfl)) wc_X11_standing
theorem wc_X12_standing : Cond.code yX12_standing cX12_standing 2 (some .int) ∈ GT := gtr_27 _ (List.mem_of_getElem? (i := 20) rfl)
theorem gc_L_66 : GoodIn GT (wsV RL 66 RX12 yX12_standing w_X12_standing) := gi_V (gtr_27 _ (List.mem_of_getElem? (i := 17) rfl)) (gtr_27 _ (List.mem_of_getElem? (i := 18) rfl)) (gtr_27 _ (List.mem_of_getElem? (i := 19) rfl)) (gtr_1 _ (List.mem_of_getElem? (i := 5) rfl)) wc_X12_standing
set_option maxHeartbeats 4000000 in
set_option maxRecDepth 100000 in
theorem lw_c7 {E : ET} {F : FT} {K : KT} {b L : Nat} {xs : Nat → Int32} (hF : LF E K b L xs F) (j : Nat) (hj : 7 * j + 7 ≤ L) (σ : HS) (hI : Inv σ) (kk : ∀ σ', Inv σ' → G E F 1492 (LV E b j) [] σ') : G E F 564 (LV E b j) [] σ := by
  obtain ⟨hC, hO, hX, hK, hT, al, htr⟩ := hF
  obtain ⟨v, σ1, σ2, h1, h2, h3⟩ := inv_standing (xs (7 * j + 1)) hI
  refine g_aload_n hC dL_law_564 rfl 2 rfl ?_
  refine g_aload_n hC dL_law_565 rfl 1 rfl ?_
  refine g_iload hC dL_law_566 0 rfl ?_
  refine g_iconst (v := 1) hC dL_law_568 (by decide) ?_
  refine g_iadd hC dL_law_569 ?_
  refine g_scr hC hX 1 (by decide) (by omega) dL_law_570 ?_
  refine g_cVI (As := [.int (xs (7 * j + 1))]) hC hO (c_X11_standing _ hC.2.2.2.2.2.2.1 26 rfl (al 26 (by decide)) (xs (7 * j + 1)) σ (nn_of h1)) gc_L_62 (xk_X11_standing _ (Nat.le_of_ble_eq_true rfl) (Nat.le_of_ble_eq_true rfl)) cr11 rfl (al 26 (by decide)) rfl (Nat.le_of_ble_eq_true rfl) dL_law_571 h1 ?_
  refine g_aload_n hC dL_law_574 rfl 3 rfl ?_
  refine g_aload_n hC dL_law_575 rfl 1 rfl ?_
  refine g_iload hC dL_law_576 0 rfl ?_
  refine g_iconst (v := 1) hC dL_law_578 (by decide) ?_
  refine g_iadd hC dL_law_579 ?_
  refine g_scr hC hX 1 (by decide) (by omega) dL_law_580 ?_
  refine g_cVI (As := [.int (xs (7 * j + 1))]) hC hO (c_X12_standing _ hC.2.2.2.2.2.2.1 0 rfl (al 0 (by decide)) (xs (7 * j + 1)) σ1 (nn_of h2)) gc_L_66 (xk_X12_standing _ (Nat.le_of_ble_eq_true rfl) (Nat.le_of_ble_eq_true rfl)) cr12 rfl (al 0 (by decide)) rfl (Nat.le_of_ble_eq_true rfl) dL_law_581 h2 ?_
  refine g_icmp_eq (tgt := 1492) (a := some ()) (b := none) (fo := some ()) hC dL_law_584 (by decide) (if_pos rfl) (fun _ _ => ?_) (fun c _ => absurd rfl c)
  exact kk _ h3
theorem wc_X11_good : Cond.code yX11_good cX11_good 7 (some .int) ∈ GT := gtr_28 _ (List.mem_of_getElem? (i := 4) rfl)
theorem gc_L_67 : GoodIn GT (wsV RL 67 RX11 yX11_good w_X11_good) := gi_V (gtr_28 _ (List.mem_of_getElem? (i := 1) rfl)) (gtr_28 _ (List.mem_of_getElem? (i := 2) rfl)) (gtr_28 _ (List.mem_of_getElem? (i := 3) rfl)) (gtr_1 _ (List.mem_of_getElem? (i := 2) rfl)) wc_X11_good
theorem wc_X12_good : Cond.code yX12_good cX12_good 13 (some .int) ∈ GT := gtr_29 _ (List.mem_of_getElem? (i := 12) rfl)
theorem gc_L_71 : GoodIn GT (wsV RL 71 RX12 yX12_good w_X12_good) := gi_V (gtr_29 _ (List.mem_of_getElem? (i := 9) rfl)) (gtr_29 _ (List.mem_of_getElem? (i := 10) rfl)) (gtr_29 _ (List.mem_of_getElem? (i := 11) rfl)) (gtr_1 _ (List.mem_of_getElem? (i := 5) rfl)) wc_X12_good
set_option maxHeartbeats 4000000 in
set_option maxRecDepth 100000 in
theorem lw_c8 {E : ET} {F : FT} {K : KT} {b L : Nat} {xs : Nat → Int32} (hF : LF E K b L xs F) (j : Nat) (hj : 7 * j + 7 ≤ L) (σ : HS) (hI : Inv σ) (kk : ∀ σ', Inv σ' → G E F 1492 (LV E b j) [] σ') : G E F 589 (LV E b j) [] σ := by
  obtain ⟨hC, hO, hX, hK, hT, al, htr⟩ := hF
  obtain ⟨v, σ1, σ2, h1, h2, h3⟩ := inv_good (xs (7 * j + 1)) (xs (7 * j + 2)) (xs (7 * j + 3)) (xs (7 * j + 4)) (xs (7 * j + 5)) (xs (7 * j + 6)) hI
  refine g_aload_n hC dL_law_589 rfl 2 rfl ?_
  refine g_aload_n hC dL_law_590 rfl 1 rfl ?_
  refine g_iload hC dL_law_591 0 rfl ?_
  refine g_iconst (v := 1) hC dL_law_593 (by decide) ?_
  refine g_iadd hC dL_law_594 ?_
  refine g_scr hC hX 1 (by decide) (by omega) dL_law_595 ?_
  refine g_aload_n hC dL_law_596 rfl 1 rfl ?_
  refine g_iload hC dL_law_597 0 rfl ?_
  refine g_iconst (v := 2) hC dL_law_599 (by decide) ?_
  refine g_iadd hC dL_law_600 ?_
  refine g_scr hC hX 2 (by decide) (by omega) dL_law_601 ?_
  refine g_aload_n hC dL_law_602 rfl 1 rfl ?_
  refine g_iload hC dL_law_603 0 rfl ?_
  refine g_iconst (v := 3) hC dL_law_605 (by decide) ?_
  refine g_iadd hC dL_law_606 ?_
  refine g_scr hC hX 3 (by decide) (by omega) dL_law_607 ?_
  refine g_aload_n hC dL_law_608 rfl 1 rfl ?_
  refine g_iload hC dL_law_609 0 rfl ?_
  refine g_iconst (v := 4) hC dL_law_611 (by decide) ?_
  refine g_iadd hC dL_law_612 ?_
  refine g_scr hC hX 4 (by decide) (by omega) dL_law_613 ?_
  refine g_aload_n hC dL_law_614 rfl 1 rfl ?_
  refine g_iload hC dL_law_615 0 rfl ?_
  refine g_iconst (v := 5) hC dL_law_617 (by decide) ?_
  refine g_iadd hC dL_law_618 ?_
  refine g_scr hC hX 5 (by decide) (by omega) dL_law_619 ?_
  refine g_aload_n hC dL_law_620 rfl 1 rfl ?_
  refine g_iload hC dL_law_621 0 rfl ?_
  refine g_bipush (v := 6) hC dL_law_623 (by decide) ?_
  refine g_iadd hC dL_law_625 ?_
  refine g_scr hC hX 6 (by decide) (by omega) dL_law_626 ?_
  refine g_cVI (As := [.int (xs (7 * j + 1)), .int (xs (7 * j + 2)), .int (xs (7 * j + 3)), .int (xs (7 * j + 4)), .int (xs (7 * j + 5)), .int (xs (7 * j + 6))]) hC hO (c_X11_good _ hC.2.2.2.2.2.2.1 26 rfl (al 26 (by decide)) (xs (7 * j + 1)) (xs (7 * j + 2)) (xs (7 * j + 3)) (xs (7 * j + 4)) (xs (7 * j + 5)) (xs (7 * j + 6)) σ (nn_of h1)) gc_L_67 (xk_X11_good _ (Nat.le_of_ble_eq_true rfl) (Nat.le_of_ble_eq_true rfl)) cr11 rfl (al 26 (by decide)) rfl (Nat.le_of_ble_eq_true rfl) dL_law_627 h1 ?_
  refine g_aload_n hC dL_law_630 rfl 3 rfl ?_
  refine g_aload_n hC dL_law_631 rfl 1 rfl ?_
  refine g_iload hC dL_law_632 0 rfl ?_
  refine g_iconst (v := 1) hC dL_law_634 (by decide) ?_
  refine g_iadd hC dL_law_635 ?_
  refine g_scr hC hX 1 (by decide) (by omega) dL_law_636 ?_
  refine g_aload_n hC dL_law_637 rfl 1 rfl ?_
  refine g_iload hC dL_law_638 0 rfl ?_
  refine g_iconst (v := 2) hC dL_law_640 (by decide) ?_
  refine g_iadd hC dL_law_641 ?_
  refine g_scr hC hX 2 (by decide) (by omega) dL_law_642 ?_
  refine g_aload_n hC dL_law_643 rfl 1 rfl ?_
  refine g_iload hC dL_law_644 0 rfl ?_
  refine g_iconst (v := 3) hC dL_law_646 (by decide) ?_
  refine g_iadd hC dL_law_647 ?_
  refine g_scr hC hX 3 (by decide) (by omega) dL_law_648 ?_
  refine g_aload_n hC dL_law_649 rfl 1 rfl ?_
  refine g_iload hC dL_law_650 0 rfl ?_
  refine g_iconst (v := 4) hC dL_law_652 (by decide) ?_
  refine g_iadd hC dL_law_653 ?_
  refine g_scr hC hX 4 (by decide) (by omega) dL_law_654 ?_
  refine g_aload_n hC dL_law_655 rfl 1 rfl ?_
  refine g_iload hC dL_law_656 0 rfl ?_
  refine g_iconst (v := 5) hC dL_law_658 (by decide) ?_
  refine g_iadd hC dL_law_659 ?_
  refine g_scr hC hX 5 (by decide) (by omega) dL_law_660 ?_
  refine g_aload_n hC dL_law_661 rfl 1 rfl ?_
  refine g_iload hC dL_law_662 0 rfl ?_
  refine g_bipush (v := 6) hC dL_law_664 (by decide) ?_
  refine g_iadd hC dL_law_666 ?_
  refine g_scr hC hX 6 (by decide) (by omega) dL_law_667 ?_
  refine g_cVI (As := [.int (xs (7 * j + 1)), .int (xs (7 * j + 2)), .int (xs (7 * j + 3)), .int (xs (7 * j + 4)), .int (xs (7 * j + 5)), .int (xs (7 * j + 6))]) hC hO (c_X12_good _ hC.2.2.2.2.2.2.1 0 rfl (al 0 (by decide)) (xs (7 * j + 1)) (xs (7 * j + 2)) (xs (7 * j + 3)) (xs (7 * j + 4)) (xs (7 * j + 5)) (xs (7 * j + 6)) σ1 (nn_of h2)) gc_L_71 (xk_X12_good _ (Nat.le_of_ble_eq_true rfl) (Nat.le_of_ble_eq_true rfl)) cr12 rfl (al 0 (by decide)) rfl (Nat.le_of_ble_eq_true rfl) dL_law_668 h2 ?_
  refine g_icmp_eq (tgt := 1492) (a := some ()) (b := none) (fo := some ()) hC dL_law_671 (by decide) (if_pos rfl) (fun _ _ => ?_) (fun c _ => absurd rfl c)
  exact kk _ h3
theorem wc_X11_fits : Cond.code yX11_fits cX11_fits 6 (some .int) ∈ GT := gtr_30 _ (List.mem_of_getElem? (i := 7) rfl)
theorem gc_L_72 : GoodIn GT (wsV RL 72 RX11 yX11_fits w_X11_fits) := gi_V (gtr_30 _ (List.mem_of_getElem? (i := 4) rfl)) (gtr_30 _ (List.mem_of_getElem? (i := 5) rfl)) (gtr_30 _ (List.mem_of_getElem? (i := 6) rfl)) (gtr_1 _ (List.mem_of_getElem? (i := 2) rfl)) wc_X11_fits
theorem wc_X12_fits : Cond.code yX12_fits cX12_fits 5 (some .int) ∈ GT := gtr_30 _ (List.mem_of_getElem? (i := 13) rfl)
theorem gc_L_76 : GoodIn GT (wsV RL 76 RX12 yX12_fits w_X12_fits) := gi_V (gtr_30 _ (List.mem_of_getElem? (i := 10) rfl)) (gtr_30 _ (List.mem_of_getElem? (i := 11) rfl)) (gtr_30 _ (List.mem_of_getElem? (i := 12) rfl)) (gtr_1 _ (List.mem_of_getElem? (i := 5) rfl)) wc_X12_fits
set_option maxHeartbeats 4000000 in
set_option maxRecDepth 100000 in
theorem lw_c9 {E : ET} {F : FT} {K : KT} {b L : Nat} {xs : Nat → Int32} (hF : LF E K b L xs F) (j : Nat) (hj : 7 * j + 7 ≤ L) (σ : HS) (hI : Inv σ) (kk : ∀ σ', Inv σ' → G E F 1492 (LV E b j) [] σ') : G E F 676 (LV E b j) [] σ := by
  obtain ⟨hC, hO, hX, hK, hT, al, htr⟩ := hF
  obtain ⟨v, σ1, σ2, h1, h2, h3⟩ := inv_fits (xs (7 * j + 1)) (xs (7 * j + 2)) (xs (7 * j + 3)) (xs (7 * j + 4)) hI
  refine g_aload_n hC dL_law_676 rfl 2 rfl ?_
  refine g_aload_n hC dL_law_677 rfl 1 rfl ?_
  refine g_iload hC dL_law_678 0 rfl ?_
  refine g_iconst (v := 1) hC dL_law_680 (by decide) ?_
  refine g_iadd hC dL_law_681 ?_
  refine g_scr hC hX 1 (by decide) (by omega) dL_law_682 ?_
  refine g_aload_n hC dL_law_683 rfl 1 rfl ?_
  refine g_iload hC dL_law_684 0 rfl ?_
  refine g_iconst (v := 2) hC dL_law_686 (by decide) ?_
  refine g_iadd hC dL_law_687 ?_
  refine g_scr hC hX 2 (by decide) (by omega) dL_law_688 ?_
  refine g_aload_n hC dL_law_689 rfl 1 rfl ?_
  refine g_iload hC dL_law_690 0 rfl ?_
  refine g_iconst (v := 3) hC dL_law_692 (by decide) ?_
  refine g_iadd hC dL_law_693 ?_
  refine g_scr hC hX 3 (by decide) (by omega) dL_law_694 ?_
  refine g_aload_n hC dL_law_695 rfl 1 rfl ?_
  refine g_iload hC dL_law_696 0 rfl ?_
  refine g_iconst (v := 4) hC dL_law_698 (by decide) ?_
  refine g_iadd hC dL_law_699 ?_
  refine g_scr hC hX 4 (by decide) (by omega) dL_law_700 ?_
  refine g_cVI (As := [.int (xs (7 * j + 1)), .int (xs (7 * j + 2)), .int (xs (7 * j + 3)), .int (xs (7 * j + 4))]) hC hO (c_X11_fits _ hC.2.2.2.2.2.2.1 26 rfl (al 26 (by decide)) (xs (7 * j + 1)) (xs (7 * j + 2)) (xs (7 * j + 3)) (xs (7 * j + 4)) σ (nn_of h1)) gc_L_72 (xk_X11_fits _ (Nat.le_of_ble_eq_true rfl) (Nat.le_of_ble_eq_true rfl)) cr11 rfl (al 26 (by decide)) rfl (Nat.le_of_ble_eq_true rfl) dL_law_701 h1 ?_
  refine g_aload_n hC dL_law_704 rfl 3 rfl ?_
  refine g_aload_n hC dL_law_705 rfl 1 rfl ?_
  refine g_iload hC dL_law_706 0 rfl ?_
  refine g_iconst (v := 1) hC dL_law_708 (by decide) ?_
  refine g_iadd hC dL_law_709 ?_
  refine g_scr hC hX 1 (by decide) (by omega) dL_law_710 ?_
  refine g_aload_n hC dL_law_711 rfl 1 rfl ?_
  refine g_iload hC dL_law_712 0 rfl ?_
  refine g_iconst (v := 2) hC dL_law_714 (by decide) ?_
  refine g_iadd hC dL_law_715 ?_
  refine g_scr hC hX 2 (by decide) (by omega) dL_law_716 ?_
  refine g_aload_n hC dL_law_717 rfl 1 rfl ?_
  refine g_iload hC dL_law_718 0 rfl ?_
  refine g_iconst (v := 3) hC dL_law_720 (by decide) ?_
  refine g_iadd hC dL_law_721 ?_
  refine g_scr hC hX 3 (by decide) (by omega) dL_law_722 ?_
  refine g_aload_n hC dL_law_723 rfl 1 rfl ?_
  refine g_iload hC dL_law_724 0 rfl ?_
  refine g_iconst (v := 4) hC dL_law_726 (by decide) ?_
  refine g_iadd hC dL_law_727 ?_
  refine g_scr hC hX 4 (by decide) (by omega) dL_law_728 ?_
  refine g_cVI (As := [.int (xs (7 * j + 1)), .int (xs (7 * j + 2)), .int (xs (7 * j + 3)), .int (xs (7 * j + 4))]) hC hO (c_X12_fits _ hC.2.2.2.2.2.2.1 0 rfl (al 0 (by decide)) (xs (7 * j + 1)) (xs (7 * j + 2)) (xs (7 * j + 3)) (xs (7 * j + 4)) σ1 (nn_of h2)) gc_L_76 (xk_X12_fits _ (Nat.le_of_ble_eq_true rfl) (Nat.le_of_ble_eq_true rfl)) cr12 rfl (al 0 (by decide)) rfl (Nat.le_of_ble_eq_true rfl) dL_law_729 h2 ?_
  refine g_icmp_eq (tgt := 1492) (a := some ()) (b := none) (fo := some ()) hC dL_law_732 (by decide) (if_pos rfl) (fun _ _ => ?_) (fun c _ => absurd rfl c)
  exact kk _ h3
theorem wc_X11_corner : Cond.code yX11_corner cX11_corner 3 (some .long) ∈ GT := gtr_32 _ (List.mem_of_getElem? (i := 23) rfl)
theorem gc_L_77 : GoodIn GT (wsV RL 77 RX11 yX11_corner w_X11_corner) := gi_V (gtr_32 _ (List.mem_of_getElem? (i := 20) rfl)) (gtr_32 _ (List.mem_of_getElem? (i := 21) rfl)) (gtr_32 _ (List.mem_of_getElem? (i := 22) rfl)) (gtr_1 _ (List.mem_of_getElem? (i := 2) rfl)) wc_X11_corner
theorem wc_X12_corner : Cond.code yX12_corner cX12_corner 6 (some .long) ∈ GT := gtr_33 _ (List.mem_of_getElem? (i := 7) rfl)
theorem gc_L_81 : GoodIn GT (wsV RL 81 RX12 yX12_corner w_X12_corner) := gi_V (gtr_33 _ (List.mem_of_getElem? (i := 4) rfl)) (gtr_33 _ (List.mem_of_getElem? (i := 5) rfl)) (gtr_33 _ (List.mem_of_getElem? (i := 6) rfl)) (gtr_1 _ (List.mem_of_getElem? (i := 5) rfl)) wc_X12_corner
set_option maxHeartbeats 4000000 in
set_option maxRecDepth 100000 in
theorem lw_c10 {E : ET} {F : FT} {K : KT} {b L : Nat} {xs : Nat → Int32} (hF : LF E K b L xs F) (j : Nat) (hj : 7 * j + 7 ≤ L) (σ : HS) (hI : Inv σ) (kk : ∀ σ', Inv σ' → G E F 1492 (LV E b j) [] σ') : G E F 737 (LV E b j) [] σ := by
  obtain ⟨hC, hO, hX, hK, hT, al, htr⟩ := hF
  obtain ⟨v, σ1, σ2, h1, h2, h3⟩ := inv_corner (xs (7 * j + 1)) (xs (7 * j + 2)) hI
  refine g_aload_n hC dL_law_737 rfl 2 rfl ?_
  refine g_aload_n hC dL_law_738 rfl 1 rfl ?_
  refine g_iload hC dL_law_739 0 rfl ?_
  refine g_iconst (v := 1) hC dL_law_741 (by decide) ?_
  refine g_iadd hC dL_law_742 ?_
  refine g_scr hC hX 1 (by decide) (by omega) dL_law_743 ?_
  refine g_aload_n hC dL_law_744 rfl 1 rfl ?_
  refine g_iload hC dL_law_745 0 rfl ?_
  refine g_iconst (v := 2) hC dL_law_747 (by decide) ?_
  refine g_iadd hC dL_law_748 ?_
  refine g_scr hC hX 2 (by decide) (by omega) dL_law_749 ?_
  refine g_cVJ (As := [.int (xs (7 * j + 1)), .int (xs (7 * j + 2))]) hC hO (c_X11_corner _ hC.2.2.2.2.2.2.1 26 rfl (al 26 (by decide)) (xs (7 * j + 1)) (xs (7 * j + 2)) σ (nn_of h1)) gc_L_77 (xk_X11_corner _ (Nat.le_of_ble_eq_true rfl) (Nat.le_of_ble_eq_true rfl)) cr11 rfl (al 26 (by decide)) rfl (Nat.le_of_ble_eq_true rfl) dL_law_750 h1 ?_
  refine g_aload_n hC dL_law_753 rfl 3 rfl ?_
  refine g_aload_n hC dL_law_754 rfl 1 rfl ?_
  refine g_iload hC dL_law_755 0 rfl ?_
  refine g_iconst (v := 1) hC dL_law_757 (by decide) ?_
  refine g_iadd hC dL_law_758 ?_
  refine g_scr hC hX 1 (by decide) (by omega) dL_law_759 ?_
  refine g_aload_n hC dL_law_760 rfl 1 rfl ?_
  refine g_iload hC dL_law_761 0 rfl ?_
  refine g_iconst (v := 2) hC dL_law_763 (by decide) ?_
  refine g_iadd hC dL_law_764 ?_
  refine g_scr hC hX 2 (by decide) (by omega) dL_law_765 ?_
  refine g_cVJ (As := [.int (xs (7 * j + 1)), .int (xs (7 * j + 2))]) hC hO (c_X12_corner _ hC.2.2.2.2.2.2.1 0 rfl (al 0 (by decide)) (xs (7 * j + 1)) (xs (7 * j + 2)) σ1 (nn_of h2)) gc_L_81 (xk_X12_corner _ (Nat.le_of_ble_eq_true rfl) (Nat.le_of_ble_eq_true rfl)) cr12 rfl (al 0 (by decide)) rfl (Nat.le_of_ble_eq_true rfl) dL_law_766 h2 ?_
  refine g_lc_eq (tgt := 1492) (a := some ()) (b := none) (fo := some ()) hC dL_law_769 dL_law_770 (by decide) (if_pos rfl) (fun _ _ => ?_) (fun c _ => absurd rfl c)
  exact kk _ h3
theorem wc_X11_small : Cond.code yX11_small cX11_small 2 (some .int) ∈ GT := gtr_34 _ (List.mem_of_getElem? (i := 22) rfl)
theorem gc_L_82 : GoodIn GT (wsV RL 82 RX11 yX11_small w_X11_small) := gi_V (gtr_34 _ (List.mem_of_getElem? (i := 19) rfl)) (gtr_34 _ (List.mem_of_getElem? (i := 20) rfl)) (gtr_34 _ (List.mem_of_getElem? (i := 21) rfl)) (gtr_1 _ (List.mem_of_getElem? (i := 2) rfl)) wc_X11_small
theorem wc_X12_small : Cond.code yX12_small cX12_small 3 (some .int) ∈ GT := gtr_36 _ (List.mem_of_getElem? (i := 14) rfl)
theorem gc_L_85 : GoodIn GT (wsV RL 85 RX12 yX12_small w_X12_small) := gi_V (gtr_36 _ (List.mem_of_getElem? (i := 11) rfl)) (gtr_36 _ (List.mem_of_getElem? (i := 12) rfl)) (gtr_36 _ (List.mem_of_getElem? (i := 13) rfl)) (gtr_1 _ (List.mem_of_getElem? (i := 5) rfl)) wc_X12_small
set_option maxHeartbeats 4000000 in
set_option maxRecDepth 100000 in
theorem lw_c11 {E : ET} {F : FT} {K : KT} {b L : Nat} {xs : Nat → Int32} (hF : LF E K b L xs F) (j : Nat) (hj : 7 * j + 7 ≤ L) (σ : HS) (hI : Inv σ) (kk : ∀ σ', Inv σ' → G E F 1492 (LV E b j) [] σ') : G E F 775 (LV E b j) [] σ := by
  obtain ⟨hC, hO, hX, hK, hT, al, htr⟩ := hF
  obtain ⟨v, σ1, σ2, h1, h2, h3⟩ := inv_small (xs (7 * j + 1)) hI
  refine g_aload_n hC dL_law_775 rfl 2 rfl ?_
  refine g_aload_n hC dL_law_776 rfl 1 rfl ?_
  refine g_iload hC dL_law_777 0 rfl ?_
  refine g_iconst (v := 1) hC dL_law_779 (by decide) ?_
  refine g_iadd hC dL_law_780 ?_
  refine g_scr hC hX 1 (by decide) (by omega) dL_law_781 ?_
  refine g_cVI (As := [.int (xs (7 * j + 1))]) hC hO (c_X11_small _ hC.2.2.2.2.2.2.1 26 rfl (al 26 (by decide)) (xs (7 * j + 1)) σ (nn_of h1)) gc_L_82 (xk_X11_small _ (Nat.le_of_ble_eq_true rfl) (Nat.le_of_ble_eq_true rfl)) cr11 rfl (al 26 (by decide)) rfl (Nat.le_of_ble_eq_true rfl) dL_law_782 h1 ?_
  refine g_aload_n hC dL_law_785 rfl 3 rfl ?_
  refine g_aload_n hC dL_law_786 rfl 1 rfl ?_
  refine g_iload hC dL_law_787 0 rfl ?_
  refine g_iconst (v := 1) hC dL_law_789 (by decide) ?_
  refine g_iadd hC dL_law_790 ?_
  refine g_scr hC hX 1 (by decide) (by omega) dL_law_791 ?_
  refine g_cVI (As := [.int (xs (7 * j + 1))]) hC hO (c_X12_small _ hC.2.2.2.2.2.2.1 0 rfl (al 0 (by decide)) (xs (7 * j + 1)) σ1 (nn_of h2)) gc_L_85 (xk_X12_small _ (Nat.le_of_ble_eq_true rfl) (Nat.le_of_ble_eq_true rfl)) cr12 rfl (al 0 (by decide)) rfl (Nat.le_of_ble_eq_true rfl) dL_law_792 h2 ?_
  refine g_icmp_eq (tgt := 1492) (a := some ()) (b := none) (fo := some ()) hC dL_law_795 (by decide) (if_pos rfl) (fun _ _ => ?_) (fun c _ => absurd rfl c)
  exact kk _ h3
theorem wc_X11_better : Cond.code yX11_better cX11_better 3 (some .int) ∈ GT := gtr_36 _ (List.mem_of_getElem? (i := 23) rfl)
theorem gc_L_86 : GoodIn GT (wsV RL 86 RX11 yX11_better w_X11_better) := gi_V (gtr_36 _ (List.mem_of_getElem? (i := 20) rfl)) (gtr_36 _ (List.mem_of_getElem? (i := 21) rfl)) (gtr_36 _ (List.mem_of_getElem? (i := 22) rfl)) (gtr_1 _ (List.mem_of_getElem? (i := 2) rfl)) wc_X11_better
theorem wc_X12_better : Cond.code yX12_better cX12_better 3 (some .int) ∈ GT := gtr_37 _ (List.mem_of_getElem? (i := 11) rfl)
theorem gc_L_89 : GoodIn GT (wsV RL 89 RX12 yX12_better w_X12_better) := gi_V (gtr_37 _ (List.mem_of_getElem? (i := 8) rfl)) (gtr_37 _ (List.mem_of_getElem? (i := 9) rfl)) (gtr_37 _ (List.mem_of_getElem? (i := 10) rfl)) (gtr_1 _ (List.mem_of_getElem? (i := 5) rfl)) wc_X12_better
set_option maxHeartbeats 4000000 in
set_option maxRecDepth 100000 in
theorem lw_c12 {E : ET} {F : FT} {K : KT} {b L : Nat} {xs : Nat → Int32} (hF : LF E K b L xs F) (j : Nat) (hj : 7 * j + 7 ≤ L) (σ : HS) (hI : Inv σ) (kk : ∀ σ', Inv σ' → G E F 1492 (LV E b j) [] σ') : G E F 800 (LV E b j) [] σ := by
  obtain ⟨hC, hO, hX, hK, hT, al, htr⟩ := hF
  obtain ⟨v, σ1, σ2, h1, h2, h3⟩ := inv_better (xs (7 * j + 1)) (xs (7 * j + 2)) hI
  refine g_aload_n hC dL_law_800 rfl 2 rfl ?_
  refine g_aload_n hC dL_law_801 rfl 1 rfl ?_
  refine g_iload hC dL_law_802 0 rfl ?_
  refine g_iconst (v := 1) hC dL_law_804 (by decide) ?_
  refine g_iadd hC dL_law_805 ?_
  refine g_scr hC hX 1 (by decide) (by omega) dL_law_806 ?_
  refine g_aload_n hC dL_law_807 rfl 1 rfl ?_
  refine g_iload hC dL_law_808 0 rfl ?_
  refine g_iconst (v := 2) hC dL_law_810 (by decide) ?_
  refine g_iadd hC dL_law_811 ?_
  refine g_scr hC hX 2 (by decide) (by omega) dL_law_812 ?_
  refine g_cVI (As := [.int (xs (7 * j + 1)), .int (xs (7 * j + 2))]) hC hO (c_X11_better _ hC.2.2.2.2.2.2.1 26 rfl (al 26 (by decide)) (xs (7 * j + 1)) (xs (7 * j + 2)) σ (nn_of h1)) gc_L_86 (xk_X11_better _ (Nat.le_of_ble_eq_true rfl) (Nat.le_of_ble_eq_true rfl)) cr11 rfl (al 26 (by decide)) rfl (Nat.le_of_ble_eq_true rfl) dL_law_813 h1 ?_
  refine g_aload_n hC dL_law_816 rfl 3 rfl ?_
  refine g_aload_n hC dL_law_817 rfl 1 rfl ?_
  refine g_iload hC dL_law_818 0 rfl ?_
  refine g_iconst (v := 1) hC dL_law_820 (by decide) ?_
  refine g_iadd hC dL_law_821 ?_
  refine g_scr hC hX 1 (by decide) (by omega) dL_law_822 ?_
  refine g_aload_n hC dL_law_823 rfl 1 rfl ?_
  refine g_iload hC dL_law_824 0 rfl ?_
  refine g_iconst (v := 2) hC dL_law_826 (by decide) ?_
  refine g_iadd hC dL_law_827 ?_
  refine g_scr hC hX 2 (by decide) (by omega) dL_law_828 ?_
  refine g_cVI (As := [.int (xs (7 * j + 1)), .int (xs (7 * j + 2))]) hC hO (c_X12_better _ hC.2.2.2.2.2.2.1 0 rfl (al 0 (by decide)) (xs (7 * j + 1)) (xs (7 * j + 2)) σ1 (nn_of h2)) gc_L_89 (xk_X12_better _ (Nat.le_of_ble_eq_true rfl) (Nat.le_of_ble_eq_true rfl)) cr12 rfl (al 0 (by decide)) rfl (Nat.le_of_ble_eq_true rfl) dL_law_829 h2 ?_
  refine g_icmp_eq (tgt := 1492) (a := some ()) (b := none) (fo := some ()) hC dL_law_832 (by decide) (if_pos rfl) (fun _ _ => ?_) (fun c _ => absurd rfl c)
  exact kk _ h3
theorem wc_X11_best : Cond.code yX11_best cX11_best 2 (some .int) ∈ GT := gtr_40 _ (List.mem_of_getElem? (i := 4) rfl)
theorem gc_L_94 : GoodIn GT (wsV RL 94 RX11 yX11_best w_X11_best) := gi_V (gtr_40 _ (List.mem_of_getElem? (i := 1) rfl)) (gtr_40 _ (List.mem_of_getElem? (i := 2) rfl)) (gtr_40 _ (List.mem_of_getElem? (i := 3) rfl)) (gtr_1 _ (List.mem_of_getElem? (i := 2) rfl)) wc_X11_best
theorem wc_X12_best : Cond.code yX12_best cX12_best 2 (some .int) ∈ GT := gtr_41 _ (List.mem_of_getElem? (i := 17) rfl)
theorem gc_L_97 : GoodIn GT (wsV RL 97 RX12 yX12_best w_X12_best) := gi_V (gtr_41 _ (List.mem_of_getElem? (i := 14) rfl)) (gtr_41 _ (List.mem_of_getElem? (i := 15) rfl)) (gtr_41 _ (List.mem_of_getElem? (i := 16) rfl)) (gtr_1 _ (List.mem_of_getElem? (i := 5) rfl)) wc_X12_best
set_option maxHeartbeats 4000000 in
set_option maxRecDepth 100000 in
theorem lw_c14 {E : ET} {F : FT} {K : KT} {b L : Nat} {xs : Nat → Int32} (hF : LF E K b L xs F) (j : Nat) (hj : 7 * j + 7 ≤ L) (σ : HS) (hI : Inv σ) (kk : ∀ σ', Inv σ' → G E F 1492 (LV E b j) [] σ') : G E F 916 (LV E b j) [] σ := by
  obtain ⟨hC, hO, hX, hK, hT, al, htr⟩ := hF
  obtain ⟨v, σ1, σ2, h1, h2, h3⟩ := inv_best (xs (7 * j + 1)) hI
  refine g_aload_n hC dL_law_916 rfl 2 rfl ?_
  refine g_aload_n hC dL_law_917 rfl 1 rfl ?_
  refine g_iload hC dL_law_918 0 rfl ?_
  refine g_iconst (v := 1) hC dL_law_920 (by decide) ?_
  refine g_iadd hC dL_law_921 ?_
  refine g_scr hC hX 1 (by decide) (by omega) dL_law_922 ?_
  refine g_cVI (As := [.int (xs (7 * j + 1))]) hC hO (c_X11_best _ hC.2.2.2.2.2.2.1 26 rfl (al 26 (by decide)) (xs (7 * j + 1)) σ (nn_of h1)) gc_L_94 (xk_X11_best _ (Nat.le_of_ble_eq_true rfl) (Nat.le_of_ble_eq_true rfl)) cr11 rfl (al 26 (by decide)) rfl (Nat.le_of_ble_eq_true rfl) dL_law_923 h1 ?_
  refine g_aload_n hC dL_law_926 rfl 3 rfl ?_
  refine g_aload_n hC dL_law_927 rfl 1 rfl ?_
  refine g_iload hC dL_law_928 0 rfl ?_
  refine g_iconst (v := 1) hC dL_law_930 (by decide) ?_
  refine g_iadd hC dL_law_931 ?_
  refine g_scr hC hX 1 (by decide) (by omega) dL_law_932 ?_
  refine g_cVI (As := [.int (xs (7 * j + 1))]) hC hO (c_X12_best _ hC.2.2.2.2.2.2.1 0 rfl (al 0 (by decide)) (xs (7 * j + 1)) σ1 (nn_of h2)) gc_L_97 (xk_X12_best _ (Nat.le_of_ble_eq_true rfl) (Nat.le_of_ble_eq_true rfl)) cr12 rfl (al 0 (by decide)) rfl (Nat.le_of_ble_eq_true rfl) dL_law_933 h2 ?_
  refine g_icmp_eq (tgt := 1492) (a := some ()) (b := none) (fo := some ()) hC dL_law_936 (by decide) (if_pos rfl) (fun _ _ => ?_) (fun c _ => absurd rfl c)
  exact kk _ h3
theorem wc_X11_regret : Cond.code yX11_regret cX11_regret 3 (some .long) ∈ GT := gtr_43 _ (List.mem_of_getElem? (i := 9) rfl)
theorem gc_L_98 : GoodIn GT (wsV RL 98 RX11 yX11_regret w_X11_regret) := gi_V (gtr_43 _ (List.mem_of_getElem? (i := 6) rfl)) (gtr_43 _ (List.mem_of_getElem? (i := 7) rfl)) (gtr_43 _ (List.mem_of_getElem? (i := 8) rfl)) (gtr_1 _ (List.mem_of_getElem? (i := 2) rfl)) wc_X11_regret
theorem wc_X12_regret : Cond.code yX12_regret cX12_regret 5 (some .long) ∈ GT := gtr_43 _ (List.mem_of_getElem? (i := 17) rfl)
theorem gc_L_101 : GoodIn GT (wsV RL 101 RX12 yX12_regret w_X12_regret) := gi_V (gtr_43 _ (List.mem_of_getElem? (i := 14) rfl)) (gtr_43 _ (List.mem_of_getElem? (i := 15) rfl)) (gtr_43 _ (List.mem_of_getElem? (i := 16) rfl)) (gtr_1 _ (List.mem_of_getElem? (i := 5) rfl)) wc_X12_regret
set_option maxHeartbeats 4000000 in
set_option maxRecDepth 100000 in
theorem lw_c15 {E : ET} {F : FT} {K : KT} {b L : Nat} {xs : Nat → Int32} (hF : LF E K b L xs F) (j : Nat) (hj : 7 * j + 7 ≤ L) (σ : HS) (hI : Inv σ) (kk : ∀ σ', Inv σ' → G E F 1492 (LV E b j) [] σ') : G E F 941 (LV E b j) [] σ := by
  obtain ⟨hC, hO, hX, hK, hT, al, htr⟩ := hF
  obtain ⟨v, σ1, σ2, h1, h2, h3⟩ := inv_regret (xs (7 * j + 1)) (xs (7 * j + 2)) hI
  refine g_aload_n hC dL_law_941 rfl 2 rfl ?_
  refine g_aload_n hC dL_law_942 rfl 1 rfl ?_
  refine g_iload hC dL_law_943 0 rfl ?_
  refine g_iconst (v := 1) hC dL_law_945 (by decide) ?_
  refine g_iadd hC dL_law_946 ?_
  refine g_scr hC hX 1 (by decide) (by omega) dL_law_947 ?_
  refine g_aload_n hC dL_law_948 rfl 1 rfl ?_
  refine g_iload hC dL_law_949 0 rfl ?_
  refine g_iconst (v := 2) hC dL_law_951 (by decide) ?_
  refine g_iadd hC dL_law_952 ?_
  refine g_scr hC hX 2 (by decide) (by omega) dL_law_953 ?_
  refine g_cVJ (As := [.int (xs (7 * j + 1)), .int (xs (7 * j + 2))]) hC hO (c_X11_regret _ hC.2.2.2.2.2.2.1 26 rfl (al 26 (by decide)) (xs (7 * j + 1)) (xs (7 * j + 2)) σ (nn_of h1)) gc_L_98 (xk_X11_regret _ (Nat.le_of_ble_eq_true rfl) (Nat.le_of_ble_eq_true rfl)) cr11 rfl (al 26 (by decide)) rfl (Nat.le_of_ble_eq_true rfl) dL_law_954 h1 ?_
  refine g_aload_n hC dL_law_957 rfl 3 rfl ?_
  refine g_aload_n hC dL_law_958 rfl 1 rfl ?_
  refine g_iload hC dL_law_959 0 rfl ?_
  refine g_iconst (v := 1) hC dL_law_961 (by decide) ?_
  refine g_iadd hC dL_law_962 ?_
  refine g_scr hC hX 1 (by decide) (by omega) dL_law_963 ?_
  refine g_aload_n hC dL_law_964 rfl 1 rfl ?_
  refine g_iload hC dL_law_965 0 rfl ?_
  refine g_iconst (v := 2) hC dL_law_967 (by decide) ?_
  refine g_iadd hC dL_law_968 ?_
  refine g_scr hC hX 2 (by decide) (by omega) dL_law_969 ?_
  refine g_cVJ (As := [.int (xs (7 * j + 1)), .int (xs (7 * j + 2))]) hC hO (c_X12_regret _ hC.2.2.2.2.2.2.1 0 rfl (al 0 (by decide)) (xs (7 * j + 1)) (xs (7 * j + 2)) σ1 (nn_of h2)) gc_L_101 (xk_X12_regret _ (Nat.le_of_ble_eq_true rfl) (Nat.le_of_ble_eq_true rfl)) cr12 rfl (al 0 (by decide)) rfl (Nat.le_of_ble_eq_true rfl) dL_law_970 h2 ?_
  refine g_lc_eq (tgt := 1492) (a := some ()) (b := none) (fo := some ()) hC dL_law_973 dL_law_974 (by decide) (if_pos rfl) (fun _ _ => ?_) (fun c _ => absurd rfl c)
  exact kk _ h3
theorem wc_X11_least : Cond.code yX11_least cX11_least 1 (some .int) ∈ GT := gtr_44 _ (List.mem_of_getElem? (i := 5) rfl)
theorem gc_L_102 : GoodIn GT (wsV RL 102 RX11 yX11_least w_X11_least) := gi_V (gtr_44 _ (List.mem_of_getElem? (i := 2) rfl)) (gtr_44 _ (List.mem_of_getElem? (i := 3) rfl)) (gtr_44 _ (List.mem_of_getElem? (i := 4) rfl)) (gtr_1 _ (List.mem_of_getElem? (i := 2) rfl)) wc_X11_least
theorem wc_X12_least : Cond.code yX12_least cX12_least 7 (some .int) ∈ GT := gtr_44 _ (List.mem_of_getElem? (i := 16) rfl)
theorem gc_L_105 : GoodIn GT (wsV RL 105 RX12 yX12_least w_X12_least) := gi_V (gtr_44 _ (List.mem_of_getElem? (i := 13) rfl)) (gtr_44 _ (List.mem_of_getElem? (i := 14) rfl)) (gtr_44 _ (List.mem_of_getElem? (i := 15) rfl)) (gtr_1 _ (List.mem_of_getElem? (i := 5) rfl)) wc_X12_least
set_option maxHeartbeats 4000000 in
set_option maxRecDepth 100000 in
theorem lw_c16 {E : ET} {F : FT} {K : KT} {b L : Nat} {xs : Nat → Int32} (hF : LF E K b L xs F) (j : Nat) (hj : 7 * j + 7 ≤ L) (σ : HS) (hI : Inv σ) (kk : ∀ σ', Inv σ' → G E F 1492 (LV E b j) [] σ') : G E F 979 (LV E b j) [] σ := by
  obtain ⟨hC, hO, hX, hK, hT, al, htr⟩ := hF
  obtain ⟨v, σ1, σ2, h1, h2, h3⟩ := inv_least  hI
  refine g_aload_n hC dL_law_979 rfl 2 rfl ?_
  refine g_cVI (As := []) hC hO (c_X11_least _ hC.2.2.2.2.2.2.1 26 rfl (al 26 (by decide))  σ (nn_of h1)) gc_L_102 (xk_X11_least _ (Nat.le_of_ble_eq_true rfl) (Nat.le_of_ble_eq_true rfl)) cr11 rfl (al 26 (by decide)) rfl (Nat.le_of_ble_eq_true rfl) dL_law_980 h1 ?_
  refine g_aload_n hC dL_law_983 rfl 3 rfl ?_
  refine g_cVI (As := []) hC hO (c_X12_least _ hC.2.2.2.2.2.2.1 0 rfl (al 0 (by decide))  σ1 (nn_of h2)) gc_L_105 (xk_X12_least _ (Nat.le_of_ble_eq_true rfl) (Nat.le_of_ble_eq_true rfl)) cr12 rfl (al 0 (by decide)) rfl (Nat.le_of_ble_eq_true rfl) dL_law_984 h2 ?_
  refine g_icmp_eq (tgt := 1492) (a := some ()) (b := none) (fo := some ()) hC dL_law_987 (by decide) (if_pos rfl) (fun _ _ => ?_) (fun c _ => absurd rfl c)
  exact kk _ h3
theorem wc_X11_beaten : Cond.code yX11_beaten cX11_beaten 2 (some .int) ∈ GT := gtr_44 _ (List.mem_of_getElem? (i := 20) rfl)
theorem gc_L_106 : GoodIn GT (wsV RL 106 RX11 yX11_beaten w_X11_beaten) := gi_V (gtr_44 _ (List.mem_of_getElem? (i := 17) rfl)) (gtr_44 _ (List.mem_of_getElem? (i := 18) rfl)) (gtr_44 _ (List.mem_of_getElem? (i := 19) rfl)) (gtr_1 _ (List.mem_of_getElem? (i := 2) rfl)) wc_X11_beaten
theorem wc_X12_beaten : Cond.code yX12_beaten cX12_beaten 3 (some .int) ∈ GT := gtr_45 _ (List.mem_of_getElem? (i := 6) rfl)
theorem gc_L_109 : GoodIn GT (wsV RL 109 RX12 yX12_beaten w_X12_beaten) := gi_V (gtr_45 _ (List.mem_of_getElem? (i := 3) rfl)) (gtr_45 _ (List.mem_of_getElem? (i := 4) rfl)) (gtr_45 _ (List.mem_of_getElem? (i := 5) rfl)) (gtr_1 _ (List.mem_of_getElem? (i := 5) rfl)) wc_X12_beaten
set_option maxHeartbeats 4000000 in
set_option maxRecDepth 100000 in
theorem lw_c17 {E : ET} {F : FT} {K : KT} {b L : Nat} {xs : Nat → Int32} (hF : LF E K b L xs F) (j : Nat) (hj : 7 * j + 7 ≤ L) (σ : HS) (hI : Inv σ) (kk : ∀ σ', Inv σ' → G E F 1492 (LV E b j) [] σ') : G E F 992 (LV E b j) [] σ := by
  obtain ⟨hC, hO, hX, hK, hT, al, htr⟩ := hF
  obtain ⟨v, σ1, σ2, h1, h2, h3⟩ := inv_beaten (xs (7 * j + 1)) hI
  refine g_aload_n hC dL_law_992 rfl 2 rfl ?_
  refine g_aload_n hC dL_law_993 rfl 1 rfl ?_
  refine g_iload hC dL_law_994 0 rfl ?_
  refine g_iconst (v := 1) hC dL_law_996 (by decide) ?_
  refine g_iadd hC dL_law_997 ?_
  refine g_scr hC hX 1 (by decide) (by omega) dL_law_998 ?_
  refine g_cVI (As := [.int (xs (7 * j + 1))]) hC hO (c_X11_beaten _ hC.2.2.2.2.2.2.1 26 rfl (al 26 (by decide)) (xs (7 * j + 1)) σ (nn_of h1)) gc_L_106 (xk_X11_beaten _ (Nat.le_of_ble_eq_true rfl) (Nat.le_of_ble_eq_true rfl)) cr11 rfl (al 26 (by decide)) rfl (Nat.le_of_ble_eq_true rfl) dL_law_999 h1 ?_
  refine g_aload_n hC dL_law_1002 rfl 3 rfl ?_
  refine g_aload_n hC dL_law_1003 rfl 1 rfl ?_
  refine g_iload hC dL_law_1004 0 rfl ?_
  refine g_iconst (v := 1) hC dL_law_1006 (by decide) ?_
  refine g_iadd hC dL_law_1007 ?_
  refine g_scr hC hX 1 (by decide) (by omega) dL_law_1008 ?_
  refine g_cVI (As := [.int (xs (7 * j + 1))]) hC hO (c_X12_beaten _ hC.2.2.2.2.2.2.1 0 rfl (al 0 (by decide)) (xs (7 * j + 1)) σ1 (nn_of h2)) gc_L_109 (xk_X12_beaten _ (Nat.le_of_ble_eq_true rfl) (Nat.le_of_ble_eq_true rfl)) cr12 rfl (al 0 (by decide)) rfl (Nat.le_of_ble_eq_true rfl) dL_law_1009 h2 ?_
  refine g_icmp_eq (tgt := 1492) (a := some ()) (b := none) (fo := some ()) hC dL_law_1012 (by decide) (if_pos rfl) (fun _ _ => ?_) (fun c _ => absurd rfl c)
  exact kk _ h3
theorem wc_X11_next : Cond.code yX11_next cX11_next 3 (some .int) ∈ GT := gtr_45 _ (List.mem_of_getElem? (i := 14) rfl)
theorem gc_L_110 : GoodIn GT (wsV RL 110 RX11 yX11_next w_X11_next) := gi_V (gtr_45 _ (List.mem_of_getElem? (i := 11) rfl)) (gtr_45 _ (List.mem_of_getElem? (i := 12) rfl)) (gtr_45 _ (List.mem_of_getElem? (i := 13) rfl)) (gtr_1 _ (List.mem_of_getElem? (i := 2) rfl)) wc_X11_next
theorem wc_X12_next : Cond.code yX12_next cX12_next 10 (some .int) ∈ GT := gtr_46 _ (List.mem_of_getElem? (i := 15) rfl)
theorem gc_L_113 : GoodIn GT (wsV RL 113 RX12 yX12_next w_X12_next) := gi_V (gtr_46 _ (List.mem_of_getElem? (i := 12) rfl)) (gtr_46 _ (List.mem_of_getElem? (i := 13) rfl)) (gtr_46 _ (List.mem_of_getElem? (i := 14) rfl)) (gtr_1 _ (List.mem_of_getElem? (i := 5) rfl)) wc_X12_next
set_option maxHeartbeats 4000000 in
set_option maxRecDepth 100000 in
theorem lw_c18 {E : ET} {F : FT} {K : KT} {b L : Nat} {xs : Nat → Int32} (hF : LF E K b L xs F) (j : Nat) (hj : 7 * j + 7 ≤ L) (σ : HS) (hI : Inv σ) (kk : ∀ σ', Inv σ' → G E F 1492 (LV E b j) [] σ') : G E F 1017 (LV E b j) [] σ := by
  obtain ⟨hC, hO, hX, hK, hT, al, htr⟩ := hF
  obtain ⟨v, σ1, σ2, h1, h2, h3⟩ := inv_next (xs (7 * j + 1)) hI
  refine g_aload_n hC dL_law_1017 rfl 2 rfl ?_
  refine g_aload_n hC dL_law_1018 rfl 1 rfl ?_
  refine g_iload hC dL_law_1019 0 rfl ?_
  refine g_iconst (v := 1) hC dL_law_1021 (by decide) ?_
  refine g_iadd hC dL_law_1022 ?_
  refine g_scr hC hX 1 (by decide) (by omega) dL_law_1023 ?_
  refine g_cVI (As := [.int (xs (7 * j + 1))]) hC hO (c_X11_next _ hC.2.2.2.2.2.2.1 26 rfl (al 26 (by decide)) (xs (7 * j + 1)) σ (nn_of h1)) gc_L_110 (xk_X11_next _ (Nat.le_of_ble_eq_true rfl) (Nat.le_of_ble_eq_true rfl)) cr11 rfl (al 26 (by decide)) rfl (Nat.le_of_ble_eq_true rfl) dL_law_1024 h1 ?_
  refine g_aload_n hC dL_law_1027 rfl 3 rfl ?_
  refine g_aload_n hC dL_law_1028 rfl 1 rfl ?_
  refine g_iload hC dL_law_1029 0 rfl ?_
  refine g_iconst (v := 1) hC dL_law_1031 (by decide) ?_
  refine g_iadd hC dL_law_1032 ?_
  refine g_scr hC hX 1 (by decide) (by omega) dL_law_1033 ?_
  refine g_cVI (As := [.int (xs (7 * j + 1))]) hC hO (c_X12_next _ hC.2.2.2.2.2.2.1 0 rfl (al 0 (by decide)) (xs (7 * j + 1)) σ1 (nn_of h2)) gc_L_113 (xk_X12_next _ (Nat.le_of_ble_eq_true rfl) (Nat.le_of_ble_eq_true rfl)) cr12 rfl (al 0 (by decide)) rfl (Nat.le_of_ble_eq_true rfl) dL_law_1034 h2 ?_
  refine g_icmp_eq (tgt := 1492) (a := some ()) (b := none) (fo := some ()) hC dL_law_1037 (by decide) (if_pos rfl) (fun _ _ => ?_) (fun c _ => absurd rfl c)
  exact kk _ h3
theorem wc_X11_few : Cond.code yX11_few cX11_few 1 (some .int) ∈ GT := gtr_47 _ (List.mem_of_getElem? (i := 2) rfl)
theorem gc_L_114 : GoodIn GT (wsV RL 114 RX11 yX11_few w_X11_few) := gi_V (gtr_46 _ (List.mem_of_getElem? (i := 23) rfl)) (gtr_47 _ (List.mem_of_getElem? (i := 0) rfl)) (gtr_47 _ (List.mem_of_getElem? (i := 1) rfl)) (gtr_1 _ (List.mem_of_getElem? (i := 2) rfl)) wc_X11_few
theorem wc_X12_few : Cond.code yX12_few cX12_few 2 (some .int) ∈ GT := gtr_48 _ (List.mem_of_getElem? (i := 4) rfl)
theorem gc_L_117 : GoodIn GT (wsV RL 117 RX12 yX12_few w_X12_few) := gi_V (gtr_48 _ (List.mem_of_getElem? (i := 1) rfl)) (gtr_48 _ (List.mem_of_getElem? (i := 2) rfl)) (gtr_48 _ (List.mem_of_getElem? (i := 3) rfl)) (gtr_1 _ (List.mem_of_getElem? (i := 5) rfl)) wc_X12_few
set_option maxHeartbeats 4000000 in
set_option maxRecDepth 100000 in
theorem lw_c19 {E : ET} {F : FT} {K : KT} {b L : Nat} {xs : Nat → Int32} (hF : LF E K b L xs F) (j : Nat) (hj : 7 * j + 7 ≤ L) (σ : HS) (hI : Inv σ) (kk : ∀ σ', Inv σ' → G E F 1492 (LV E b j) [] σ') : G E F 1042 (LV E b j) [] σ := by
  obtain ⟨hC, hO, hX, hK, hT, al, htr⟩ := hF
  obtain ⟨v, σ1, σ2, h1, h2, h3⟩ := inv_few  hI
  refine g_aload_n hC dL_law_1042 rfl 2 rfl ?_
  refine g_cVI (As := []) hC hO (c_X11_few _ hC.2.2.2.2.2.2.1 26 rfl (al 26 (by decide))  σ (nn_of h1)) gc_L_114 (xk_X11_few _ (Nat.le_of_ble_eq_true rfl) (Nat.le_of_ble_eq_true rfl)) cr11 rfl (al 26 (by decide)) rfl (Nat.le_of_ble_eq_true rfl) dL_law_1043 h1 ?_
  refine g_aload_n hC dL_law_1046 rfl 3 rfl ?_
  refine g_cVI (As := []) hC hO (c_X12_few _ hC.2.2.2.2.2.2.1 0 rfl (al 0 (by decide))  σ1 (nn_of h2)) gc_L_117 (xk_X12_few _ (Nat.le_of_ble_eq_true rfl) (Nat.le_of_ble_eq_true rfl)) cr12 rfl (al 0 (by decide)) rfl (Nat.le_of_ble_eq_true rfl) dL_law_1047 h2 ?_
  refine g_icmp_eq (tgt := 1492) (a := some ()) (b := none) (fo := some ()) hC dL_law_1050 (by decide) (if_pos rfl) (fun _ _ => ?_) (fun c _ => absurd rfl c)
  exact kk _ h3
theorem wc_X11_need : Cond.code yX11_need cX11_need 4 (some .int) ∈ GT := gtr_48 _ (List.mem_of_getElem? (i := 20) rfl)
theorem gc_L_118 : GoodIn GT (wsV RL 118 RX11 yX11_need w_X11_need) := gi_V (gtr_48 _ (List.mem_of_getElem? (i := 17) rfl)) (gtr_48 _ (List.mem_of_getElem? (i := 18) rfl)) (gtr_48 _ (List.mem_of_getElem? (i := 19) rfl)) (gtr_1 _ (List.mem_of_getElem? (i := 2) rfl)) wc_X11_need
theorem wc_X12_need : Cond.code yX12_need cX12_need 8 (some .int) ∈ GT := gtr_49 _ (List.mem_of_getElem? (i := 16) rfl)
theorem gc_L_122 : GoodIn GT (wsV RL 122 RX12 yX12_need w_X12_need) := gi_V (gtr_49 _ (List.mem_of_getElem? (i := 13) rfl)) (gtr_49 _ (List.mem_of_getElem? (i := 14) rfl)) (gtr_49 _ (List.mem_of_getElem? (i := 15) rfl)) (gtr_1 _ (List.mem_of_getElem? (i := 5) rfl)) wc_X12_need
set_option maxHeartbeats 4000000 in
set_option maxRecDepth 100000 in
theorem lw_c20 {E : ET} {F : FT} {K : KT} {b L : Nat} {xs : Nat → Int32} (hF : LF E K b L xs F) (j : Nat) (hj : 7 * j + 7 ≤ L) (σ : HS) (hI : Inv σ) (kk : ∀ σ', Inv σ' → G E F 1492 (LV E b j) [] σ') : G E F 1055 (LV E b j) [] σ := by
  obtain ⟨hC, hO, hX, hK, hT, al, htr⟩ := hF
  by_cases cz : xs (7 * j + 3) = 0
  · obtain ⟨v, σ1, σ2, h1, h2, h3⟩ := inv_need (xs (7 * j + 1)) (xs (7 * j + 2)) (0) hI
    refine g_aload_n hC dL_law_1055 rfl 2 rfl ?_
    refine g_aload_n hC dL_law_1056 rfl 1 rfl ?_
    refine g_iload hC dL_law_1057 0 rfl ?_
    refine g_iconst (v := 1) hC dL_law_1059 (by decide) ?_
    refine g_iadd hC dL_law_1060 ?_
    refine g_scr hC hX 1 (by decide) (by omega) dL_law_1061 ?_
    refine g_aload_n hC dL_law_1062 rfl 1 rfl ?_
    refine g_iload hC dL_law_1063 0 rfl ?_
    refine g_iconst (v := 2) hC dL_law_1065 (by decide) ?_
    refine g_iadd hC dL_law_1066 ?_
    refine g_scr hC hX 2 (by decide) (by omega) dL_law_1067 ?_
    refine g_aload_n hC dL_law_1068 rfl 1 rfl ?_
    refine g_iload hC dL_law_1069 0 rfl ?_
    refine g_iconst (v := 3) hC dL_law_1071 (by decide) ?_
    refine g_iadd hC dL_law_1072 ?_
    refine g_scr hC hX 3 (by decide) (by omega) dL_law_1073 ?_
    refine g_if_eq (tgt := 1081) (a := some ()) (b := none) (fo := some ()) hC dL_law_1074 (by decide) (if_pos cz) (fun _ _ => ?_) (fun c _ => absurd cz c)
    refine g_iconst (v := 0) hC dL_law_1081 (by decide) ?_
    refine g_cVI (As := [.int (xs (7 * j + 1)), .int (xs (7 * j + 2)), .int (0)]) hC hO (c_X11_need _ hC.2.2.2.2.2.2.1 26 rfl (al 26 (by decide)) (xs (7 * j + 1)) (xs (7 * j + 2)) (0) σ (nn_of h1)) gc_L_118 (xk_X11_need _ (Nat.le_of_ble_eq_true rfl) (Nat.le_of_ble_eq_true rfl)) cr11 rfl (al 26 (by decide)) rfl (Nat.le_of_ble_eq_true rfl) dL_law_1082 h1 ?_
    refine g_aload_n hC dL_law_1085 rfl 3 rfl ?_
    refine g_aload_n hC dL_law_1086 rfl 1 rfl ?_
    refine g_iload hC dL_law_1087 0 rfl ?_
    refine g_iconst (v := 1) hC dL_law_1089 (by decide) ?_
    refine g_iadd hC dL_law_1090 ?_
    refine g_scr hC hX 1 (by decide) (by omega) dL_law_1091 ?_
    refine g_aload_n hC dL_law_1092 rfl 1 rfl ?_
    refine g_iload hC dL_law_1093 0 rfl ?_
    refine g_iconst (v := 2) hC dL_law_1095 (by decide) ?_
    refine g_iadd hC dL_law_1096 ?_
    refine g_scr hC hX 2 (by decide) (by omega) dL_law_1097 ?_
    refine g_aload_n hC dL_law_1098 rfl 1 rfl ?_
    refine g_iload hC dL_law_1099 0 rfl ?_
    refine g_iconst (v := 3) hC dL_law_1101 (by decide) ?_
    refine g_iadd hC dL_law_1102 ?_
    refine g_scr hC hX 3 (by decide) (by omega) dL_law_1103 ?_
    refine g_if_eq (tgt := 1111) (a := some ()) (b := none) (fo := some ()) hC dL_law_1104 (by decide) (if_pos cz) (fun _ _ => ?_) (fun c _ => absurd cz c)
    refine g_iconst (v := 0) hC dL_law_1111 (by decide) ?_
    refine g_cVI (As := [.int (xs (7 * j + 1)), .int (xs (7 * j + 2)), .int (0)]) hC hO (c_X12_need _ hC.2.2.2.2.2.2.1 0 rfl (al 0 (by decide)) (xs (7 * j + 1)) (xs (7 * j + 2)) (0) σ1 (nn_of h2)) gc_L_122 (xk_X12_need _ (Nat.le_of_ble_eq_true rfl) (Nat.le_of_ble_eq_true rfl)) cr12 rfl (al 0 (by decide)) rfl (Nat.le_of_ble_eq_true rfl) dL_law_1112 h2 ?_
    refine g_icmp_eq (tgt := 1492) (a := some ()) (b := none) (fo := some ()) hC dL_law_1115 (by decide) (if_pos rfl) (fun _ _ => ?_) (fun c _ => absurd rfl c)
    exact kk _ h3
  · obtain ⟨v, σ1, σ2, h1, h2, h3⟩ := inv_need (xs (7 * j + 1)) (xs (7 * j + 2)) (1) hI
    refine g_aload_n hC dL_law_1055 rfl 2 rfl ?_
    refine g_aload_n hC dL_law_1056 rfl 1 rfl ?_
    refine g_iload hC dL_law_1057 0 rfl ?_
    refine g_iconst (v := 1) hC dL_law_1059 (by decide) ?_
    refine g_iadd hC dL_law_1060 ?_
    refine g_scr hC hX 1 (by decide) (by omega) dL_law_1061 ?_
    refine g_aload_n hC dL_law_1062 rfl 1 rfl ?_
    refine g_iload hC dL_law_1063 0 rfl ?_
    refine g_iconst (v := 2) hC dL_law_1065 (by decide) ?_
    refine g_iadd hC dL_law_1066 ?_
    refine g_scr hC hX 2 (by decide) (by omega) dL_law_1067 ?_
    refine g_aload_n hC dL_law_1068 rfl 1 rfl ?_
    refine g_iload hC dL_law_1069 0 rfl ?_
    refine g_iconst (v := 3) hC dL_law_1071 (by decide) ?_
    refine g_iadd hC dL_law_1072 ?_
    refine g_scr hC hX 3 (by decide) (by omega) dL_law_1073 ?_
    refine g_if_eq (tgt := 1081) (a := none) (b := some ()) (fo := some ()) hC dL_law_1074 (by decide) (if_neg cz) (fun c _ => absurd c cz) (fun _ _ => ?_)
    refine g_iconst (v := 1) hC dL_law_1077 (by decide) ?_
    refine g_goto (tgt := 1082) hC dL_law_1078 (by decide) ?_
    refine g_cVI (As := [.int (xs (7 * j + 1)), .int (xs (7 * j + 2)), .int (1)]) hC hO (c_X11_need _ hC.2.2.2.2.2.2.1 26 rfl (al 26 (by decide)) (xs (7 * j + 1)) (xs (7 * j + 2)) (1) σ (nn_of h1)) gc_L_118 (xk_X11_need _ (Nat.le_of_ble_eq_true rfl) (Nat.le_of_ble_eq_true rfl)) cr11 rfl (al 26 (by decide)) rfl (Nat.le_of_ble_eq_true rfl) dL_law_1082 h1 ?_
    refine g_aload_n hC dL_law_1085 rfl 3 rfl ?_
    refine g_aload_n hC dL_law_1086 rfl 1 rfl ?_
    refine g_iload hC dL_law_1087 0 rfl ?_
    refine g_iconst (v := 1) hC dL_law_1089 (by decide) ?_
    refine g_iadd hC dL_law_1090 ?_
    refine g_scr hC hX 1 (by decide) (by omega) dL_law_1091 ?_
    refine g_aload_n hC dL_law_1092 rfl 1 rfl ?_
    refine g_iload hC dL_law_1093 0 rfl ?_
    refine g_iconst (v := 2) hC dL_law_1095 (by decide) ?_
    refine g_iadd hC dL_law_1096 ?_
    refine g_scr hC hX 2 (by decide) (by omega) dL_law_1097 ?_
    refine g_aload_n hC dL_law_1098 rfl 1 rfl ?_
    refine g_iload hC dL_law_1099 0 rfl ?_
    refine g_iconst (v := 3) hC dL_law_1101 (by decide) ?_
    refine g_iadd hC dL_law_1102 ?_
    refine g_scr hC hX 3 (by decide) (by omega) dL_law_1103 ?_
    refine g_if_eq (tgt := 1111) (a := none) (b := some ()) (fo := some ()) hC dL_law_1104 (by decide) (if_neg cz) (fun c _ => absurd c cz) (fun _ _ => ?_)
    refine g_iconst (v := 1) hC dL_law_1107 (by decide) ?_
    refine g_goto (tgt := 1112) hC dL_law_1108 (by decide) ?_
    refine g_cVI (As := [.int (xs (7 * j + 1)), .int (xs (7 * j + 2)), .int (1)]) hC hO (c_X12_need _ hC.2.2.2.2.2.2.1 0 rfl (al 0 (by decide)) (xs (7 * j + 1)) (xs (7 * j + 2)) (1) σ1 (nn_of h2)) gc_L_122 (xk_X12_need _ (Nat.le_of_ble_eq_true rfl) (Nat.le_of_ble_eq_true rfl)) cr12 rfl (al 0 (by decide)) rfl (Nat.le_of_ble_eq_true rfl) dL_law_1112 h2 ?_
    refine g_icmp_eq (tgt := 1492) (a := some ()) (b := none) (fo := some ()) hC dL_law_1115 (by decide) (if_pos rfl) (fun _ _ => ?_) (fun c _ => absurd rfl c)
    exact kk _ h3
theorem wc_X11_share : Cond.code yX11_share cX11_share 9 (some .int) ∈ GT := gtr_50 _ (List.mem_of_getElem? (i := 0) rfl)
theorem gc_L_123 : GoodIn GT (wsV RL 123 RX11 yX11_share w_X11_share) := gi_V (gtr_49 _ (List.mem_of_getElem? (i := 21) rfl)) (gtr_49 _ (List.mem_of_getElem? (i := 22) rfl)) (gtr_49 _ (List.mem_of_getElem? (i := 23) rfl)) (gtr_1 _ (List.mem_of_getElem? (i := 2) rfl)) wc_X11_share
theorem wc_X12_share : Cond.code yX12_share cX12_share 3 (some .int) ∈ GT := gtr_51 _ (List.mem_of_getElem? (i := 2) rfl)
theorem gc_L_126 : GoodIn GT (wsV RL 126 RX12 yX12_share w_X12_share) := gi_V (gtr_50 _ (List.mem_of_getElem? (i := 23) rfl)) (gtr_51 _ (List.mem_of_getElem? (i := 0) rfl)) (gtr_51 _ (List.mem_of_getElem? (i := 1) rfl)) (gtr_1 _ (List.mem_of_getElem? (i := 5) rfl)) wc_X12_share
set_option maxHeartbeats 4000000 in
set_option maxRecDepth 100000 in
theorem lw_c21 {E : ET} {F : FT} {K : KT} {b L : Nat} {xs : Nat → Int32} (hF : LF E K b L xs F) (j : Nat) (hj : 7 * j + 7 ≤ L) (σ : HS) (hI : Inv σ) (kk : ∀ σ', Inv σ' → G E F 1492 (LV E b j) [] σ') : G E F 1120 (LV E b j) [] σ := by
  obtain ⟨hC, hO, hX, hK, hT, al, htr⟩ := hF
  obtain ⟨v, σ1, σ2, h1, h2, h3⟩ := inv_share (xs (7 * j + 1)) (xs (7 * j + 2)) hI
  refine g_aload_n hC dL_law_1120 rfl 2 rfl ?_
  refine g_aload_n hC dL_law_1121 rfl 1 rfl ?_
  refine g_iload hC dL_law_1122 0 rfl ?_
  refine g_iconst (v := 1) hC dL_law_1124 (by decide) ?_
  refine g_iadd hC dL_law_1125 ?_
  refine g_scr hC hX 1 (by decide) (by omega) dL_law_1126 ?_
  refine g_aload_n hC dL_law_1127 rfl 1 rfl ?_
  refine g_iload hC dL_law_1128 0 rfl ?_
  refine g_iconst (v := 2) hC dL_law_1130 (by decide) ?_
  refine g_iadd hC dL_law_1131 ?_
  refine g_scr hC hX 2 (by decide) (by omega) dL_law_1132 ?_
  refine g_cVI (As := [.int (xs (7 * j + 1)), .int (xs (7 * j + 2))]) hC hO (c_X11_share _ hC.2.2.2.2.2.2.1 26 rfl (al 26 (by decide)) (xs (7 * j + 1)) (xs (7 * j + 2)) σ (nn_of h1)) gc_L_123 (xk_X11_share _ (Nat.le_of_ble_eq_true rfl) (Nat.le_of_ble_eq_true rfl)) cr11 rfl (al 26 (by decide)) rfl (Nat.le_of_ble_eq_true rfl) dL_law_1133 h1 ?_
  refine g_aload_n hC dL_law_1136 rfl 3 rfl ?_
  refine g_aload_n hC dL_law_1137 rfl 1 rfl ?_
  refine g_iload hC dL_law_1138 0 rfl ?_
  refine g_iconst (v := 1) hC dL_law_1140 (by decide) ?_
  refine g_iadd hC dL_law_1141 ?_
  refine g_scr hC hX 1 (by decide) (by omega) dL_law_1142 ?_
  refine g_aload_n hC dL_law_1143 rfl 1 rfl ?_
  refine g_iload hC dL_law_1144 0 rfl ?_
  refine g_iconst (v := 2) hC dL_law_1146 (by decide) ?_
  refine g_iadd hC dL_law_1147 ?_
  refine g_scr hC hX 2 (by decide) (by omega) dL_law_1148 ?_
  refine g_cVI (As := [.int (xs (7 * j + 1)), .int (xs (7 * j + 2))]) hC hO (c_X12_share _ hC.2.2.2.2.2.2.1 0 rfl (al 0 (by decide)) (xs (7 * j + 1)) (xs (7 * j + 2)) σ1 (nn_of h2)) gc_L_126 (xk_X12_share _ (Nat.le_of_ble_eq_true rfl) (Nat.le_of_ble_eq_true rfl)) cr12 rfl (al 0 (by decide)) rfl (Nat.le_of_ble_eq_true rfl) dL_law_1149 h2 ?_
  refine g_icmp_eq (tgt := 1492) (a := some ()) (b := none) (fo := some ()) hC dL_law_1152 (by decide) (if_pos rfl) (fun _ _ => ?_) (fun c _ => absurd rfl c)
  exact kk _ h3
theorem wc_X11_why : Cond.code yX11_why cX11_why 4 (some .int) ∈ GT := gtr_51 _ (List.mem_of_getElem? (i := 14) rfl)
theorem gc_L_127 : GoodIn GT (wsV RL 127 RX11 yX11_why w_X11_why) := gi_V (gtr_51 _ (List.mem_of_getElem? (i := 11) rfl)) (gtr_51 _ (List.mem_of_getElem? (i := 12) rfl)) (gtr_51 _ (List.mem_of_getElem? (i := 13) rfl)) (gtr_1 _ (List.mem_of_getElem? (i := 2) rfl)) wc_X11_why
theorem wc_X12_why : Cond.code yX12_why cX12_why 5 (some .int) ∈ GT := gtr_51 _ (List.mem_of_getElem? (i := 19) rfl)
theorem gc_L_131 : GoodIn GT (wsV RL 131 RX12 yX12_why w_X12_why) := gi_V (gtr_51 _ (List.mem_of_getElem? (i := 16) rfl)) (gtr_51 _ (List.mem_of_getElem? (i := 17) rfl)) (gtr_51 _ (List.mem_of_getElem? (i := 18) rfl)) (gtr_1 _ (List.mem_of_getElem? (i := 5) rfl)) wc_X12_why
set_option maxHeartbeats 4000000 in
set_option maxRecDepth 100000 in
theorem lw_c22 {E : ET} {F : FT} {K : KT} {b L : Nat} {xs : Nat → Int32} (hF : LF E K b L xs F) (j : Nat) (hj : 7 * j + 7 ≤ L) (σ : HS) (hI : Inv σ) (kk : ∀ σ', Inv σ' → G E F 1492 (LV E b j) [] σ') : G E F 1157 (LV E b j) [] σ := by
  obtain ⟨hC, hO, hX, hK, hT, al, htr⟩ := hF
  obtain ⟨v, σ1, σ2, h1, h2, h3⟩ := inv_why (xs (7 * j + 1)) (xs (7 * j + 2)) (xs (7 * j + 3)) hI
  refine g_aload_n hC dL_law_1157 rfl 2 rfl ?_
  refine g_aload_n hC dL_law_1158 rfl 1 rfl ?_
  refine g_iload hC dL_law_1159 0 rfl ?_
  refine g_iconst (v := 1) hC dL_law_1161 (by decide) ?_
  refine g_iadd hC dL_law_1162 ?_
  refine g_scr hC hX 1 (by decide) (by omega) dL_law_1163 ?_
  refine g_aload_n hC dL_law_1164 rfl 1 rfl ?_
  refine g_iload hC dL_law_1165 0 rfl ?_
  refine g_iconst (v := 2) hC dL_law_1167 (by decide) ?_
  refine g_iadd hC dL_law_1168 ?_
  refine g_scr hC hX 2 (by decide) (by omega) dL_law_1169 ?_
  refine g_aload_n hC dL_law_1170 rfl 1 rfl ?_
  refine g_iload hC dL_law_1171 0 rfl ?_
  refine g_iconst (v := 3) hC dL_law_1173 (by decide) ?_
  refine g_iadd hC dL_law_1174 ?_
  refine g_scr hC hX 3 (by decide) (by omega) dL_law_1175 ?_
  refine g_cVI (As := [.int (xs (7 * j + 1)), .int (xs (7 * j + 2)), .int (xs (7 * j + 3))]) hC hO (c_X11_why _ hC.2.2.2.2.2.2.1 26 rfl (al 26 (by decide)) (xs (7 * j + 1)) (xs (7 * j + 2)) (xs (7 * j + 3)) σ (nn_of h1)) gc_L_127 (xk_X11_why _ (Nat.le_of_ble_eq_true rfl) (Nat.le_of_ble_eq_true rfl)) cr11 rfl (al 26 (by decide)) rfl (Nat.le_of_ble_eq_true rfl) dL_law_1176 h1 ?_
  refine g_aload_n hC dL_law_1179 rfl 3 rfl ?_
  refine g_aload_n hC dL_law_1180 rfl 1 rfl ?_
  refine g_iload hC dL_law_1181 0 rfl ?_
  refine g_iconst (v := 1) hC dL_law_1183 (by decide) ?_
  refine g_iadd hC dL_law_1184 ?_
  refine g_scr hC hX 1 (by decide) (by omega) dL_law_1185 ?_
  refine g_aload_n hC dL_law_1186 rfl 1 rfl ?_
  refine g_iload hC dL_law_1187 0 rfl ?_
  refine g_iconst (v := 2) hC dL_law_1189 (by decide) ?_
  refine g_iadd hC dL_law_1190 ?_
  refine g_scr hC hX 2 (by decide) (by omega) dL_law_1191 ?_
  refine g_aload_n hC dL_law_1192 rfl 1 rfl ?_
  refine g_iload hC dL_law_1193 0 rfl ?_
  refine g_iconst (v := 3) hC dL_law_1195 (by decide) ?_
  refine g_iadd hC dL_law_1196 ?_
  refine g_scr hC hX 3 (by decide) (by omega) dL_law_1197 ?_
  refine g_cVI (As := [.int (xs (7 * j + 1)), .int (xs (7 * j + 2)), .int (xs (7 * j + 3))]) hC hO (c_X12_why _ hC.2.2.2.2.2.2.1 0 rfl (al 0 (by decide)) (xs (7 * j + 1)) (xs (7 * j + 2)) (xs (7 * j + 3)) σ1 (nn_of h2)) gc_L_131 (xk_X12_why _ (Nat.le_of_ble_eq_true rfl) (Nat.le_of_ble_eq_true rfl)) cr12 rfl (al 0 (by decide)) rfl (Nat.le_of_ble_eq_true rfl) dL_law_1198 h2 ?_
  refine g_icmp_eq (tgt := 1492) (a := some ()) (b := none) (fo := some ()) hC dL_law_1201 (by decide) (if_pos rfl) (fun _ _ => ?_) (fun c _ => absurd rfl c)
  exact kk _ h3
theorem wc_X11_holds : Cond.code yX11_holds cX11_holds 4 (some .int) ∈ GT := gtr_52 _ (List.mem_of_getElem? (i := 3) rfl)
theorem gc_L_132 : GoodIn GT (wsV RL 132 RX11 yX11_holds w_X11_holds) := gi_V (gtr_52 _ (List.mem_of_getElem? (i := 0) rfl)) (gtr_52 _ (List.mem_of_getElem? (i := 1) rfl)) (gtr_52 _ (List.mem_of_getElem? (i := 2) rfl)) (gtr_1 _ (List.mem_of_getElem? (i := 2) rfl)) wc_X11_holds
theorem wc_X12_holds : Cond.code yX12_holds cX12_holds 4 (some .int) ∈ GT := gtr_52 _ (List.mem_of_getElem? (i := 9) rfl)
theorem gc_L_135 : GoodIn GT (wsV RL 135 RX12 yX12_holds w_X12_holds) := gi_V (gtr_52 _ (List.mem_of_getElem? (i := 6) rfl)) (gtr_52 _ (List.mem_of_getElem? (i := 7) rfl)) (gtr_52 _ (List.mem_of_getElem? (i := 8) rfl)) (gtr_1 _ (List.mem_of_getElem? (i := 5) rfl)) wc_X12_holds
set_option maxHeartbeats 4000000 in
set_option maxRecDepth 100000 in
theorem lw_c23 {E : ET} {F : FT} {K : KT} {b L : Nat} {xs : Nat → Int32} (hF : LF E K b L xs F) (j : Nat) (hj : 7 * j + 7 ≤ L) (σ : HS) (hI : Inv σ) (kk : ∀ σ', Inv σ' → G E F 1492 (LV E b j) [] σ') : G E F 1206 (LV E b j) [] σ := by
  obtain ⟨hC, hO, hX, hK, hT, al, htr⟩ := hF
  obtain ⟨v, σ1, σ2, h1, h2, h3⟩ := inv_holds (xs (7 * j + 1)) (xs (7 * j + 2)) (xs (7 * j + 3)) hI
  refine g_aload_n hC dL_law_1206 rfl 2 rfl ?_
  refine g_aload_n hC dL_law_1207 rfl 1 rfl ?_
  refine g_iload hC dL_law_1208 0 rfl ?_
  refine g_iconst (v := 1) hC dL_law_1210 (by decide) ?_
  refine g_iadd hC dL_law_1211 ?_
  refine g_scr hC hX 1 (by decide) (by omega) dL_law_1212 ?_
  refine g_aload_n hC dL_law_1213 rfl 1 rfl ?_
  refine g_iload hC dL_law_1214 0 rfl ?_
  refine g_iconst (v := 2) hC dL_law_1216 (by decide) ?_
  refine g_iadd hC dL_law_1217 ?_
  refine g_scr hC hX 2 (by decide) (by omega) dL_law_1218 ?_
  refine g_aload_n hC dL_law_1219 rfl 1 rfl ?_
  refine g_iload hC dL_law_1220 0 rfl ?_
  refine g_iconst (v := 3) hC dL_law_1222 (by decide) ?_
  refine g_iadd hC dL_law_1223 ?_
  refine g_scr hC hX 3 (by decide) (by omega) dL_law_1224 ?_
  refine g_cVI (As := [.int (xs (7 * j + 1)), .int (xs (7 * j + 2)), .int (xs (7 * j + 3))]) hC hO (c_X11_holds _ hC.2.2.2.2.2.2.1 26 rfl (al 26 (by decide)) (xs (7 * j + 1)) (xs (7 * j + 2)) (xs (7 * j + 3)) σ (nn_of h1)) gc_L_132 (xk_X11_holds _ (Nat.le_of_ble_eq_true rfl) (Nat.le_of_ble_eq_true rfl)) cr11 rfl (al 26 (by decide)) rfl (Nat.le_of_ble_eq_true rfl) dL_law_1225 h1 ?_
  refine g_aload_n hC dL_law_1228 rfl 3 rfl ?_
  refine g_aload_n hC dL_law_1229 rfl 1 rfl ?_
  refine g_iload hC dL_law_1230 0 rfl ?_
  refine g_iconst (v := 1) hC dL_law_1232 (by decide) ?_
  refine g_iadd hC dL_law_1233 ?_
  refine g_scr hC hX 1 (by decide) (by omega) dL_law_1234 ?_
  refine g_aload_n hC dL_law_1235 rfl 1 rfl ?_
  refine g_iload hC dL_law_1236 0 rfl ?_
  refine g_iconst (v := 2) hC dL_law_1238 (by decide) ?_
  refine g_iadd hC dL_law_1239 ?_
  refine g_scr hC hX 2 (by decide) (by omega) dL_law_1240 ?_
  refine g_aload_n hC dL_law_1241 rfl 1 rfl ?_
  refine g_iload hC dL_law_1242 0 rfl ?_
  refine g_iconst (v := 3) hC dL_law_1244 (by decide) ?_
  refine g_iadd hC dL_law_1245 ?_
  refine g_scr hC hX 3 (by decide) (by omega) dL_law_1246 ?_
  refine g_cVI (As := [.int (xs (7 * j + 1)), .int (xs (7 * j + 2)), .int (xs (7 * j + 3))]) hC hO (c_X12_holds _ hC.2.2.2.2.2.2.1 0 rfl (al 0 (by decide)) (xs (7 * j + 1)) (xs (7 * j + 2)) (xs (7 * j + 3)) σ1 (nn_of h2)) gc_L_135 (xk_X12_holds _ (Nat.le_of_ble_eq_true rfl) (Nat.le_of_ble_eq_true rfl)) cr12 rfl (al 0 (by decide)) rfl (Nat.le_of_ble_eq_true rfl) dL_law_1247 h2 ?_
  refine g_icmp_eq (tgt := 1492) (a := some ()) (b := none) (fo := some ()) hC dL_law_1250 (by decide) (if_pos rfl) (fun _ _ => ?_) (fun c _ => absurd rfl c)
  exact kk _ h3
theorem wc_X11_edge : Cond.code yX11_edge cX11_edge 4 (some .int) ∈ GT := gtr_52 _ (List.mem_of_getElem? (i := 13) rfl)
theorem gc_L_136 : GoodIn GT (wsV RL 136 RX11 yX11_edge w_X11_edge) := gi_V (gtr_52 _ (List.mem_of_getElem? (i := 10) rfl)) (gtr_52 _ (List.mem_of_getElem? (i := 11) rfl)) (gtr_52 _ (List.mem_of_getElem? (i := 12) rfl)) (gtr_1 _ (List.mem_of_getElem? (i := 2) rfl)) wc_X11_edge
theorem wc_X12_edge : Cond.code yX12_edge cX12_edge 6 (some .int) ∈ GT := gtr_52 _ (List.mem_of_getElem? (i := 21) rfl)
theorem gc_L_139 : GoodIn GT (wsV RL 139 RX12 yX12_edge w_X12_edge) := gi_V (gtr_52 _ (List.mem_of_getElem? (i := 18) rfl)) (gtr_52 _ (List.mem_of_getElem? (i := 19) rfl)) (gtr_52 _ (List.mem_of_getElem? (i := 20) rfl)) (gtr_1 _ (List.mem_of_getElem? (i := 5) rfl)) wc_X12_edge
set_option maxHeartbeats 4000000 in
set_option maxRecDepth 100000 in
theorem lw_c24 {E : ET} {F : FT} {K : KT} {b L : Nat} {xs : Nat → Int32} (hF : LF E K b L xs F) (j : Nat) (hj : 7 * j + 7 ≤ L) (σ : HS) (hI : Inv σ) (kk : ∀ σ', Inv σ' → G E F 1492 (LV E b j) [] σ') : G E F 1255 (LV E b j) [] σ := by
  obtain ⟨hC, hO, hX, hK, hT, al, htr⟩ := hF
  obtain ⟨v, σ1, σ2, h1, h2, h3⟩ := inv_edge (xs (7 * j + 1)) (xs (7 * j + 2)) (xs (7 * j + 3)) hI
  refine g_aload_n hC dL_law_1255 rfl 2 rfl ?_
  refine g_aload_n hC dL_law_1256 rfl 1 rfl ?_
  refine g_iload hC dL_law_1257 0 rfl ?_
  refine g_iconst (v := 1) hC dL_law_1259 (by decide) ?_
  refine g_iadd hC dL_law_1260 ?_
  refine g_scr hC hX 1 (by decide) (by omega) dL_law_1261 ?_
  refine g_aload_n hC dL_law_1262 rfl 1 rfl ?_
  refine g_iload hC dL_law_1263 0 rfl ?_
  refine g_iconst (v := 2) hC dL_law_1265 (by decide) ?_
  refine g_iadd hC dL_law_1266 ?_
  refine g_scr hC hX 2 (by decide) (by omega) dL_law_1267 ?_
  refine g_aload_n hC dL_law_1268 rfl 1 rfl ?_
  refine g_iload hC dL_law_1269 0 rfl ?_
  refine g_iconst (v := 3) hC dL_law_1271 (by decide) ?_
  refine g_iadd hC dL_law_1272 ?_
  refine g_scr hC hX 3 (by decide) (by omega) dL_law_1273 ?_
  refine g_cVI (As := [.int (xs (7 * j + 1)), .int (xs (7 * j + 2)), .int (xs (7 * j + 3))]) hC hO (c_X11_edge _ hC.2.2.2.2.2.2.1 26 rfl (al 26 (by decide)) (xs (7 * j + 1)) (xs (7 * j + 2)) (xs (7 * j + 3)) σ (nn_of h1)) gc_L_136 (xk_X11_edge _ (Nat.le_of_ble_eq_true rfl) (Nat.le_of_ble_eq_true rfl)) cr11 rfl (al 26 (by decide)) rfl (Nat.le_of_ble_eq_true rfl) dL_law_1274 h1 ?_
  refine g_aload_n hC dL_law_1277 rfl 3 rfl ?_
  refine g_aload_n hC dL_law_1278 rfl 1 rfl ?_
  refine g_iload hC dL_law_1279 0 rfl ?_
  refine g_iconst (v := 1) hC dL_law_1281 (by decide) ?_
  refine g_iadd hC dL_law_1282 ?_
  refine g_scr hC hX 1 (by decide) (by omega) dL_law_1283 ?_
  refine g_aload_n hC dL_law_1284 rfl 1 rfl ?_
  refine g_iload hC dL_law_1285 0 rfl ?_
  refine g_iconst (v := 2) hC dL_law_1287 (by decide) ?_
  refine g_iadd hC dL_law_1288 ?_
  refine g_scr hC hX 2 (by decide) (by omega) dL_law_1289 ?_
  refine g_aload_n hC dL_law_1290 rfl 1 rfl ?_
  refine g_iload hC dL_law_1291 0 rfl ?_
  refine g_iconst (v := 3) hC dL_law_1293 (by decide) ?_
  refine g_iadd hC dL_law_1294 ?_
  refine g_scr hC hX 3 (by decide) (by omega) dL_law_1295 ?_
  refine g_cVI (As := [.int (xs (7 * j + 1)), .int (xs (7 * j + 2)), .int (xs (7 * j + 3))]) hC hO (c_X12_edge _ hC.2.2.2.2.2.2.1 0 rfl (al 0 (by decide)) (xs (7 * j + 1)) (xs (7 * j + 2)) (xs (7 * j + 3)) σ1 (nn_of h2)) gc_L_139 (xk_X12_edge _ (Nat.le_of_ble_eq_true rfl) (Nat.le_of_ble_eq_true rfl)) cr12 rfl (al 0 (by decide)) rfl (Nat.le_of_ble_eq_true rfl) dL_law_1296 h2 ?_
  refine g_icmp_eq (tgt := 1492) (a := some ()) (b := none) (fo := some ()) hC dL_law_1299 (by decide) (if_pos rfl) (fun _ _ => ?_) (fun c _ => absurd rfl c)
  exact kk _ h3
theorem wc_X11_agree : Cond.code yX11_agree cX11_agree 2 (some .int) ∈ GT := gtr_53 _ (List.mem_of_getElem? (i := 1) rfl)
theorem gc_L_140 : GoodIn GT (wsV RL 140 RX11 yX11_agree w_X11_agree) := gi_V (gtr_52 _ (List.mem_of_getElem? (i := 22) rfl)) (gtr_52 _ (List.mem_of_getElem? (i := 23) rfl)) (gtr_53 _ (List.mem_of_getElem? (i := 0) rfl)) (gtr_1 _ (List.mem_of_getElem? (i := 2) rfl)) wc_X11_agree
theorem wc_X12_agree : Cond.code yX12_agree cX12_agree 4 (some .int) ∈ GT := gtr_54 _ (List.mem_of_getElem? (i := 10) rfl)
theorem gc_L_143 : GoodIn GT (wsV RL 143 RX12 yX12_agree w_X12_agree) := gi_V (gtr_54 _ (List.mem_of_getElem? (i := 7) rfl)) (gtr_54 _ (List.mem_of_getElem? (i := 8) rfl)) (gtr_54 _ (List.mem_of_getElem? (i := 9) rfl)) (gtr_1 _ (List.mem_of_getElem? (i := 5) rfl)) wc_X12_agree
set_option maxHeartbeats 4000000 in
set_option maxRecDepth 100000 in
theorem lw_c25 {E : ET} {F : FT} {K : KT} {b L : Nat} {xs : Nat → Int32} (hF : LF E K b L xs F) (j : Nat) (hj : 7 * j + 7 ≤ L) (σ : HS) (hI : Inv σ) (kk : ∀ σ', Inv σ' → G E F 1492 (LV E b j) [] σ') : G E F 1304 (LV E b j) [] σ := by
  obtain ⟨hC, hO, hX, hK, hT, al, htr⟩ := hF
  obtain ⟨v, σ1, σ2, h1, h2, h3⟩ := inv_agree (xs (7 * j + 1)) hI
  refine g_aload_n hC dL_law_1304 rfl 2 rfl ?_
  refine g_aload_n hC dL_law_1305 rfl 1 rfl ?_
  refine g_iload hC dL_law_1306 0 rfl ?_
  refine g_iconst (v := 1) hC dL_law_1308 (by decide) ?_
  refine g_iadd hC dL_law_1309 ?_
  refine g_scr hC hX 1 (by decide) (by omega) dL_law_1310 ?_
  refine g_cVI (As := [.int (xs (7 * j + 1))]) hC hO (c_X11_agree _ hC.2.2.2.2.2.2.1 26 rfl (al 26 (by decide)) (xs (7 * j + 1)) σ (nn_of h1)) gc_L_140 (xk_X11_agree _ (Nat.le_of_ble_eq_true rfl) (Nat.le_of_ble_eq_true rfl)) cr11 rfl (al 26 (by decide)) rfl (Nat.le_of_ble_eq_true rfl) dL_law_1311 h1 ?_
  refine g_aload_n hC dL_law_1314 rfl 3 rfl ?_
  refine g_aload_n hC dL_law_1315 rfl 1 rfl ?_
  refine g_iload hC dL_law_1316 0 rfl ?_
  refine g_iconst (v := 1) hC dL_law_1318 (by decide) ?_
  refine g_iadd hC dL_law_1319 ?_
  refine g_scr hC hX 1 (by decide) (by omega) dL_law_1320 ?_
  refine g_cVI (As := [.int (xs (7 * j + 1))]) hC hO (c_X12_agree _ hC.2.2.2.2.2.2.1 0 rfl (al 0 (by decide)) (xs (7 * j + 1)) σ1 (nn_of h2)) gc_L_143 (xk_X12_agree _ (Nat.le_of_ble_eq_true rfl) (Nat.le_of_ble_eq_true rfl)) cr12 rfl (al 0 (by decide)) rfl (Nat.le_of_ble_eq_true rfl) dL_law_1321 h2 ?_
  refine g_icmp_eq (tgt := 1492) (a := some ()) (b := none) (fo := some ()) hC dL_law_1324 (by decide) (if_pos rfl) (fun _ _ => ?_) (fun c _ => absurd rfl c)
  exact kk _ h3
theorem wc_X11_yields : Cond.code yX11_yields cX11_yields 2 (some .int) ∈ GT := gtr_54 _ (List.mem_of_getElem? (i := 18) rfl)
theorem gc_L_144 : GoodIn GT (wsV RL 144 RX11 yX11_yields w_X11_yields) := gi_V (gtr_54 _ (List.mem_of_getElem? (i := 15) rfl)) (gtr_54 _ (List.mem_of_getElem? (i := 16) rfl)) (gtr_54 _ (List.mem_of_getElem? (i := 17) rfl)) (gtr_1 _ (List.mem_of_getElem? (i := 2) rfl)) wc_X11_yields
theorem wc_X12_yields : Cond.code yX12_yields cX12_yields 4 (some .int) ∈ GT := gtr_55 _ (List.mem_of_getElem? (i := 2) rfl)
theorem gc_L_147 : GoodIn GT (wsV RL 147 RX12 yX12_yields w_X12_yields) := gi_V (gtr_54 _ (List.mem_of_getElem? (i := 23) rfl)) (gtr_55 _ (List.mem_of_getElem? (i := 0) rfl)) (gtr_55 _ (List.mem_of_getElem? (i := 1) rfl)) (gtr_1 _ (List.mem_of_getElem? (i := 5) rfl)) wc_X12_yields
set_option maxHeartbeats 4000000 in
set_option maxRecDepth 100000 in
theorem lw_c26 {E : ET} {F : FT} {K : KT} {b L : Nat} {xs : Nat → Int32} (hF : LF E K b L xs F) (j : Nat) (hj : 7 * j + 7 ≤ L) (σ : HS) (hI : Inv σ) (kk : ∀ σ', Inv σ' → G E F 1492 (LV E b j) [] σ') : G E F 1329 (LV E b j) [] σ := by
  obtain ⟨hC, hO, hX, hK, hT, al, htr⟩ := hF
  obtain ⟨v, σ1, σ2, h1, h2, h3⟩ := inv_yields (xs (7 * j + 1)) hI
  refine g_aload_n hC dL_law_1329 rfl 2 rfl ?_
  refine g_aload_n hC dL_law_1330 rfl 1 rfl ?_
  refine g_iload hC dL_law_1331 0 rfl ?_
  refine g_iconst (v := 1) hC dL_law_1333 (by decide) ?_
  refine g_iadd hC dL_law_1334 ?_
  refine g_scr hC hX 1 (by decide) (by omega) dL_law_1335 ?_
  refine g_cVI (As := [.int (xs (7 * j + 1))]) hC hO (c_X11_yields _ hC.2.2.2.2.2.2.1 26 rfl (al 26 (by decide)) (xs (7 * j + 1)) σ (nn_of h1)) gc_L_144 (xk_X11_yields _ (Nat.le_of_ble_eq_true rfl) (Nat.le_of_ble_eq_true rfl)) cr11 rfl (al 26 (by decide)) rfl (Nat.le_of_ble_eq_true rfl) dL_law_1336 h1 ?_
  refine g_aload_n hC dL_law_1339 rfl 3 rfl ?_
  refine g_aload_n hC dL_law_1340 rfl 1 rfl ?_
  refine g_iload hC dL_law_1341 0 rfl ?_
  refine g_iconst (v := 1) hC dL_law_1343 (by decide) ?_
  refine g_iadd hC dL_law_1344 ?_
  refine g_scr hC hX 1 (by decide) (by omega) dL_law_1345 ?_
  refine g_cVI (As := [.int (xs (7 * j + 1))]) hC hO (c_X12_yields _ hC.2.2.2.2.2.2.1 0 rfl (al 0 (by decide)) (xs (7 * j + 1)) σ1 (nn_of h2)) gc_L_147 (xk_X12_yields _ (Nat.le_of_ble_eq_true rfl) (Nat.le_of_ble_eq_true rfl)) cr12 rfl (al 0 (by decide)) rfl (Nat.le_of_ble_eq_true rfl) dL_law_1346 h2 ?_
  refine g_icmp_eq (tgt := 1492) (a := some ()) (b := none) (fo := some ()) hC dL_law_1349 (by decide) (if_pos rfl) (fun _ _ => ?_) (fun c _ => absurd rfl c)
  exact kk _ h3
theorem wc_X11_row : Cond.code yX11_row cX11_row 3 (some .boolean) ∈ GT := gtr_55 _ (List.mem_of_getElem? (i := 6) rfl)
theorem gc_L_148 : GoodIn GT (wsV RL 148 RX11 yX11_row w_X11_row) := gi_V (gtr_55 _ (List.mem_of_getElem? (i := 3) rfl)) (gtr_55 _ (List.mem_of_getElem? (i := 4) rfl)) (gtr_55 _ (List.mem_of_getElem? (i := 5) rfl)) (gtr_1 _ (List.mem_of_getElem? (i := 2) rfl)) wc_X11_row
theorem wc_X12_row : Cond.code yX12_row cX12_row 4 (some .boolean) ∈ GT := gtr_55 _ (List.mem_of_getElem? (i := 10) rfl)
theorem gc_L_151 : GoodIn GT (wsV RL 151 RX12 yX12_row w_X12_row) := gi_V (gtr_55 _ (List.mem_of_getElem? (i := 7) rfl)) (gtr_55 _ (List.mem_of_getElem? (i := 8) rfl)) (gtr_55 _ (List.mem_of_getElem? (i := 9) rfl)) (gtr_1 _ (List.mem_of_getElem? (i := 5) rfl)) wc_X12_row
set_option maxHeartbeats 4000000 in
set_option maxRecDepth 100000 in
theorem lw_c27 {E : ET} {F : FT} {K : KT} {b L : Nat} {xs : Nat → Int32} (hF : LF E K b L xs F) (j : Nat) (hj : 7 * j + 7 ≤ L) (σ : HS) (hI : Inv σ) (kk : ∀ σ', Inv σ' → G E F 1492 (LV E b j) [] σ') : G E F 1354 (LV E b j) [] σ := by
  obtain ⟨hC, hO, hX, hK, hT, al, htr⟩ := hF
  obtain ⟨v, σ1, σ2, h1, h2, h3⟩ := inv_row (xs (7 * j + 1)) hI
  refine g_aload_n hC dL_law_1354 rfl 2 rfl ?_
  refine g_aload_n hC dL_law_1355 rfl 1 rfl ?_
  refine g_iload hC dL_law_1356 0 rfl ?_
  refine g_iconst (v := 1) hC dL_law_1358 (by decide) ?_
  refine g_iadd hC dL_law_1359 ?_
  refine g_scr hC hX 1 (by decide) (by omega) dL_law_1360 ?_
  refine g_cVI (As := [.int (xs (7 * j + 1))]) hC hO (c_X11_row _ hC.2.2.2.2.2.2.1 26 rfl (al 26 (by decide)) (xs (7 * j + 1)) σ (nn_of h1)) gc_L_148 (xk_X11_row _ (Nat.le_of_ble_eq_true rfl) (Nat.le_of_ble_eq_true rfl)) cr11 rfl (al 26 (by decide)) rfl (Nat.le_of_ble_eq_true rfl) dL_law_1361 h1 ?_
  refine g_aload_n hC dL_law_1364 rfl 3 rfl ?_
  refine g_aload_n hC dL_law_1365 rfl 1 rfl ?_
  refine g_iload hC dL_law_1366 0 rfl ?_
  refine g_iconst (v := 1) hC dL_law_1368 (by decide) ?_
  refine g_iadd hC dL_law_1369 ?_
  refine g_scr hC hX 1 (by decide) (by omega) dL_law_1370 ?_
  refine g_cVI (As := [.int (xs (7 * j + 1))]) hC hO (c_X12_row _ hC.2.2.2.2.2.2.1 0 rfl (al 0 (by decide)) (xs (7 * j + 1)) σ1 (nn_of h2)) gc_L_151 (xk_X12_row _ (Nat.le_of_ble_eq_true rfl) (Nat.le_of_ble_eq_true rfl)) cr12 rfl (al 0 (by decide)) rfl (Nat.le_of_ble_eq_true rfl) dL_law_1371 h2 ?_
  refine g_icmp_eq (tgt := 1492) (a := some ()) (b := none) (fo := some ()) hC dL_law_1374 (by decide) (if_pos rfl) (fun _ _ => ?_) (fun c _ => absurd rfl c)
  exact kk _ h3
theorem wc_X11_judged : Cond.code yX11_judged cX11_judged 3 (some .int) ∈ GT := gtr_55 _ (List.mem_of_getElem? (i := 14) rfl)
theorem gc_L_152 : GoodIn GT (wsV RL 152 RX11 yX11_judged w_X11_judged) := gi_V (gtr_55 _ (List.mem_of_getElem? (i := 11) rfl)) (gtr_55 _ (List.mem_of_getElem? (i := 12) rfl)) (gtr_55 _ (List.mem_of_getElem? (i := 13) rfl)) (gtr_1 _ (List.mem_of_getElem? (i := 2) rfl)) wc_X11_judged
theorem wc_X12_judged : Cond.code yX12_judged cX12_judged 3 (some .int) ∈ GT := gtr_55 _ (List.mem_of_getElem? (i := 22) rfl)
theorem gc_L_155 : GoodIn GT (wsV RL 155 RX12 yX12_judged w_X12_judged) := gi_V (gtr_55 _ (List.mem_of_getElem? (i := 19) rfl)) (gtr_55 _ (List.mem_of_getElem? (i := 20) rfl)) (gtr_55 _ (List.mem_of_getElem? (i := 21) rfl)) (gtr_1 _ (List.mem_of_getElem? (i := 5) rfl)) wc_X12_judged
set_option maxHeartbeats 4000000 in
set_option maxRecDepth 100000 in
theorem lw_c28 {E : ET} {F : FT} {K : KT} {b L : Nat} {xs : Nat → Int32} (hF : LF E K b L xs F) (j : Nat) (hj : 7 * j + 7 ≤ L) (σ : HS) (hI : Inv σ) (kk : ∀ σ', Inv σ' → G E F 1492 (LV E b j) [] σ') : G E F 1379 (LV E b j) [] σ := by
  obtain ⟨hC, hO, hX, hK, hT, al, htr⟩ := hF
  obtain ⟨v, σ1, σ2, h1, h2, h3⟩ := inv_judged (xs (7 * j + 1)) hI
  refine g_aload_n hC dL_law_1379 rfl 2 rfl ?_
  refine g_aload_n hC dL_law_1380 rfl 1 rfl ?_
  refine g_iload hC dL_law_1381 0 rfl ?_
  refine g_iconst (v := 1) hC dL_law_1383 (by decide) ?_
  refine g_iadd hC dL_law_1384 ?_
  refine g_scr hC hX 1 (by decide) (by omega) dL_law_1385 ?_
  refine g_cVI (As := [.int (xs (7 * j + 1))]) hC hO (c_X11_judged _ hC.2.2.2.2.2.2.1 26 rfl (al 26 (by decide)) (xs (7 * j + 1)) σ (nn_of h1)) gc_L_152 (xk_X11_judged _ (Nat.le_of_ble_eq_true rfl) (Nat.le_of_ble_eq_true rfl)) cr11 rfl (al 26 (by decide)) rfl (Nat.le_of_ble_eq_true rfl) dL_law_1386 h1 ?_
  refine g_aload_n hC dL_law_1389 rfl 3 rfl ?_
  refine g_aload_n hC dL_law_1390 rfl 1 rfl ?_
  refine g_iload hC dL_law_1391 0 rfl ?_
  refine g_iconst (v := 1) hC dL_law_1393 (by decide) ?_
  refine g_iadd hC dL_law_1394 ?_
  refine g_scr hC hX 1 (by decide) (by omega) dL_law_1395 ?_
  refine g_cVI (As := [.int (xs (7 * j + 1))]) hC hO (c_X12_judged _ hC.2.2.2.2.2.2.1 0 rfl (al 0 (by decide)) (xs (7 * j + 1)) σ1 (nn_of h2)) gc_L_155 (xk_X12_judged _ (Nat.le_of_ble_eq_true rfl) (Nat.le_of_ble_eq_true rfl)) cr12 rfl (al 0 (by decide)) rfl (Nat.le_of_ble_eq_true rfl) dL_law_1396 h2 ?_
  refine g_icmp_eq (tgt := 1492) (a := some ()) (b := none) (fo := some ()) hC dL_law_1399 (by decide) (if_pos rfl) (fun _ _ => ?_) (fun c _ => absurd rfl c)
  exact kk _ h3
theorem wc_X11_worst : Cond.code yX11_worst cX11_worst 1 (some .int) ∈ GT := gtr_56 _ (List.mem_of_getElem? (i := 2) rfl)
theorem gc_L_156 : GoodIn GT (wsV RL 156 RX11 yX11_worst w_X11_worst) := gi_V (gtr_55 _ (List.mem_of_getElem? (i := 23) rfl)) (gtr_56 _ (List.mem_of_getElem? (i := 0) rfl)) (gtr_56 _ (List.mem_of_getElem? (i := 1) rfl)) (gtr_1 _ (List.mem_of_getElem? (i := 2) rfl)) wc_X11_worst
theorem wc_X12_worst : Cond.code yX12_worst cX12_worst 6 (some .int) ∈ GT := gtr_56 _ (List.mem_of_getElem? (i := 15) rfl)
theorem gc_L_159 : GoodIn GT (wsV RL 159 RX12 yX12_worst w_X12_worst) := gi_V (gtr_56 _ (List.mem_of_getElem? (i := 12) rfl)) (gtr_56 _ (List.mem_of_getElem? (i := 13) rfl)) (gtr_56 _ (List.mem_of_getElem? (i := 14) rfl)) (gtr_1 _ (List.mem_of_getElem? (i := 5) rfl)) wc_X12_worst
set_option maxHeartbeats 4000000 in
set_option maxRecDepth 100000 in
theorem lw_c29 {E : ET} {F : FT} {K : KT} {b L : Nat} {xs : Nat → Int32} (hF : LF E K b L xs F) (j : Nat) (hj : 7 * j + 7 ≤ L) (σ : HS) (hI : Inv σ) (kk : ∀ σ', Inv σ' → G E F 1492 (LV E b j) [] σ') : G E F 1404 (LV E b j) [] σ := by
  obtain ⟨hC, hO, hX, hK, hT, al, htr⟩ := hF
  obtain ⟨v, σ1, σ2, h1, h2, h3⟩ := inv_worst  hI
  refine g_aload_n hC dL_law_1404 rfl 2 rfl ?_
  refine g_cVI (As := []) hC hO (c_X11_worst _ hC.2.2.2.2.2.2.1 26 rfl (al 26 (by decide))  σ (nn_of h1)) gc_L_156 (xk_X11_worst _ (Nat.le_of_ble_eq_true rfl) (Nat.le_of_ble_eq_true rfl)) cr11 rfl (al 26 (by decide)) rfl (Nat.le_of_ble_eq_true rfl) dL_law_1405 h1 ?_
  refine g_aload_n hC dL_law_1408 rfl 3 rfl ?_
  refine g_cVI (As := []) hC hO (c_X12_worst _ hC.2.2.2.2.2.2.1 0 rfl (al 0 (by decide))  σ1 (nn_of h2)) gc_L_159 (xk_X12_worst _ (Nat.le_of_ble_eq_true rfl) (Nat.le_of_ble_eq_true rfl)) cr12 rfl (al 0 (by decide)) rfl (Nat.le_of_ble_eq_true rfl) dL_law_1409 h2 ?_
  refine g_icmp_eq (tgt := 1492) (a := some ()) (b := none) (fo := some ()) hC dL_law_1412 (by decide) (if_pos rfl) (fun _ _ => ?_) (fun c _ => absurd rfl c)
  exact kk _ h3
theorem wc_X11_first : Cond.code yX11_first cX11_first 6 (some .int) ∈ GT := gtr_56 _ (List.mem_of_getElem? (i := 19) rfl)
theorem gc_L_160 : GoodIn GT (wsV RL 160 RX11 yX11_first w_X11_first) := gi_V (gtr_56 _ (List.mem_of_getElem? (i := 16) rfl)) (gtr_56 _ (List.mem_of_getElem? (i := 17) rfl)) (gtr_56 _ (List.mem_of_getElem? (i := 18) rfl)) (gtr_1 _ (List.mem_of_getElem? (i := 2) rfl)) wc_X11_first
theorem wc_X12_first : Cond.code yX12_first cX12_first 6 (some .int) ∈ GT := gtr_57 _ (List.mem_of_getElem? (i := 3) rfl)
theorem gc_L_163 : GoodIn GT (wsV RL 163 RX12 yX12_first w_X12_first) := gi_V (gtr_57 _ (List.mem_of_getElem? (i := 0) rfl)) (gtr_57 _ (List.mem_of_getElem? (i := 1) rfl)) (gtr_57 _ (List.mem_of_getElem? (i := 2) rfl)) (gtr_1 _ (List.mem_of_getElem? (i := 5) rfl)) wc_X12_first
set_option maxHeartbeats 4000000 in
set_option maxRecDepth 100000 in
theorem lw_c30 {E : ET} {F : FT} {K : KT} {b L : Nat} {xs : Nat → Int32} (hF : LF E K b L xs F) (j : Nat) (hj : 7 * j + 7 ≤ L) (σ : HS) (hI : Inv σ) (kk : ∀ σ', Inv σ' → G E F 1492 (LV E b j) [] σ') : G E F 1417 (LV E b j) [] σ := by
  obtain ⟨hC, hO, hX, hK, hT, al, htr⟩ := hF
  obtain ⟨v, σ1, σ2, h1, h2, h3⟩ := inv_first (xs (7 * j + 1)) hI
  refine g_aload_n hC dL_law_1417 rfl 2 rfl ?_
  refine g_aload_n hC dL_law_1418 rfl 1 rfl ?_
  refine g_iload hC dL_law_1419 0 rfl ?_
  refine g_iconst (v := 1) hC dL_law_1421 (by decide) ?_
  refine g_iadd hC dL_law_1422 ?_
  refine g_scr hC hX 1 (by decide) (by omega) dL_law_1423 ?_
  refine g_cVI (As := [.int (xs (7 * j + 1))]) hC hO (c_X11_first _ hC.2.2.2.2.2.2.1 26 rfl (al 26 (by decide)) (xs (7 * j + 1)) σ (nn_of h1)) gc_L_160 (xk_X11_first _ (Nat.le_of_ble_eq_true rfl) (Nat.le_of_ble_eq_true rfl)) cr11 rfl (al 26 (by decide)) rfl (Nat.le_of_ble_eq_true rfl) dL_law_1424 h1 ?_
  refine g_aload_n hC dL_law_1427 rfl 3 rfl ?_
  refine g_aload_n hC dL_law_1428 rfl 1 rfl ?_
  refine g_iload hC dL_law_1429 0 rfl ?_
  refine g_iconst (v := 1) hC dL_law_1431 (by decide) ?_
  refine g_iadd hC dL_law_1432 ?_
  refine g_scr hC hX 1 (by decide) (by omega) dL_law_1433 ?_
  refine g_cVI (As := [.int (xs (7 * j + 1))]) hC hO (c_X12_first _ hC.2.2.2.2.2.2.1 0 rfl (al 0 (by decide)) (xs (7 * j + 1)) σ1 (nn_of h2)) gc_L_163 (xk_X12_first _ (Nat.le_of_ble_eq_true rfl) (Nat.le_of_ble_eq_true rfl)) cr12 rfl (al 0 (by decide)) rfl (Nat.le_of_ble_eq_true rfl) dL_law_1434 h2 ?_
  refine g_icmp_eq (tgt := 1492) (a := some ()) (b := none) (fo := some ()) hC dL_law_1437 (by decide) (if_pos rfl) (fun _ _ => ?_) (fun c _ => absurd rfl c)
  exact kk _ h3
theorem wc_X11_many : Cond.code yX11_many cX11_many 2 (some .int) ∈ GT := gtr_57 _ (List.mem_of_getElem? (i := 11) rfl)
theorem gc_L_164 : GoodIn GT (wsV RL 164 RX11 yX11_many w_X11_many) := gi_V (gtr_57 _ (List.mem_of_getElem? (i := 8) rfl)) (gtr_57 _ (List.mem_of_getElem? (i := 9) rfl)) (gtr_57 _ (List.mem_of_getElem? (i := 10) rfl)) (gtr_1 _ (List.mem_of_getElem? (i := 2) rfl)) wc_X11_many
theorem wc_X12_many : Cond.code yX12_many cX12_many 6 (some .int) ∈ GT := gtr_58 _ (List.mem_of_getElem? (i := 0) rfl)
theorem gc_L_167 : GoodIn GT (wsV RL 167 RX12 yX12_many w_X12_many) := gi_V (gtr_57 _ (List.mem_of_getElem? (i := 21) rfl)) (gtr_57 _ (List.mem_of_getElem? (i := 22) rfl)) (gtr_57 _ (List.mem_of_getElem? (i := 23) rfl)) (gtr_1 _ (List.mem_of_getElem? (i := 5) rfl)) wc_X12_many
set_option maxHeartbeats 4000000 in
set_option maxRecDepth 100000 in
theorem lw_c31 {E : ET} {F : FT} {K : KT} {b L : Nat} {xs : Nat → Int32} (hF : LF E K b L xs F) (j : Nat) (hj : 7 * j + 7 ≤ L) (σ : HS) (hI : Inv σ) (kk : ∀ σ', Inv σ' → G E F 1492 (LV E b j) [] σ') : G E F 1442 (LV E b j) [] σ := by
  obtain ⟨hC, hO, hX, hK, hT, al, htr⟩ := hF
  obtain ⟨v, σ1, σ2, h1, h2, h3⟩ := inv_many (xs (7 * j + 1)) hI
  refine g_aload_n hC dL_law_1442 rfl 2 rfl ?_
  refine g_aload_n hC dL_law_1443 rfl 1 rfl ?_
  refine g_iload hC dL_law_1444 0 rfl ?_
  refine g_iconst (v := 1) hC dL_law_1446 (by decide) ?_
  refine g_iadd hC dL_law_1447 ?_
  refine g_scr hC hX 1 (by decide) (by omega) dL_law_1448 ?_
  refine g_cVI (As := [.int (xs (7 * j + 1))]) hC hO (c_X11_many _ hC.2.2.2.2.2.2.1 26 rfl (al 26 (by decide)) (xs (7 * j + 1)) σ (nn_of h1)) gc_L_164 (xk_X11_many _ (Nat.le_of_ble_eq_true rfl) (Nat.le_of_ble_eq_true rfl)) cr11 rfl (al 26 (by decide)) rfl (Nat.le_of_ble_eq_true rfl) dL_law_1449 h1 ?_
  refine g_aload_n hC dL_law_1452 rfl 3 rfl ?_
  refine g_aload_n hC dL_law_1453 rfl 1 rfl ?_
  refine g_iload hC dL_law_1454 0 rfl ?_
  refine g_iconst (v := 1) hC dL_law_1456 (by decide) ?_
  refine g_iadd hC dL_law_1457 ?_
  refine g_scr hC hX 1 (by decide) (by omega) dL_law_1458 ?_
  refine g_cVI (As := [.int (xs (7 * j + 1))]) hC hO (c_X12_many _ hC.2.2.2.2.2.2.1 0 rfl (al 0 (by decide)) (xs (7 * j + 1)) σ1 (nn_of h2)) gc_L_167 (xk_X12_many _ (Nat.le_of_ble_eq_true rfl) (Nat.le_of_ble_eq_true rfl)) cr12 rfl (al 0 (by decide)) rfl (Nat.le_of_ble_eq_true rfl) dL_law_1459 h2 ?_
  refine g_icmp_eq (tgt := 1492) (a := some ()) (b := none) (fo := some ()) hC dL_law_1462 (by decide) (if_pos rfl) (fun _ _ => ?_) (fun c _ => absurd rfl c)
  exact kk _ h3
theorem wc_X11_count : Cond.code yX11_count cX11_count 2 (some .int) ∈ GT := gtr_58 _ (List.mem_of_getElem? (i := 8) rfl)
theorem gc_L_168 : GoodIn GT (wsV RL 168 RX11 yX11_count w_X11_count) := gi_V (gtr_58 _ (List.mem_of_getElem? (i := 5) rfl)) (gtr_58 _ (List.mem_of_getElem? (i := 6) rfl)) (gtr_58 _ (List.mem_of_getElem? (i := 7) rfl)) (gtr_1 _ (List.mem_of_getElem? (i := 2) rfl)) wc_X11_count
theorem wc_X12_count : Cond.code yX12_count cX12_count 2 (some .int) ∈ GT := gtr_58 _ (List.mem_of_getElem? (i := 12) rfl)
theorem gc_L_171 : GoodIn GT (wsV RL 171 RX12 yX12_count w_X12_count) := gi_V (gtr_58 _ (List.mem_of_getElem? (i := 9) rfl)) (gtr_58 _ (List.mem_of_getElem? (i := 10) rfl)) (gtr_58 _ (List.mem_of_getElem? (i := 11) rfl)) (gtr_1 _ (List.mem_of_getElem? (i := 5) rfl)) wc_X12_count
set_option maxHeartbeats 4000000 in
set_option maxRecDepth 100000 in
theorem lw_c32 {E : ET} {F : FT} {K : KT} {b L : Nat} {xs : Nat → Int32} (hF : LF E K b L xs F) (j : Nat) (hj : 7 * j + 7 ≤ L) (σ : HS) (hI : Inv σ) (kk : ∀ σ', Inv σ' → G E F 1492 (LV E b j) [] σ') : G E F 1467 (LV E b j) [] σ := by
  obtain ⟨hC, hO, hX, hK, hT, al, htr⟩ := hF
  obtain ⟨v, σ1, σ2, h1, h2, h3⟩ := inv_count (xs (7 * j + 1)) hI
  refine g_aload_n hC dL_law_1467 rfl 2 rfl ?_
  refine g_aload_n hC dL_law_1468 rfl 1 rfl ?_
  refine g_iload hC dL_law_1469 0 rfl ?_
  refine g_iconst (v := 1) hC dL_law_1471 (by decide) ?_
  refine g_iadd hC dL_law_1472 ?_
  refine g_scr hC hX 1 (by decide) (by omega) dL_law_1473 ?_
  refine g_cVI (As := [.int (xs (7 * j + 1))]) hC hO (c_X11_count _ hC.2.2.2.2.2.2.1 26 rfl (al 26 (by decide)) (xs (7 * j + 1)) σ (nn_of h1)) gc_L_168 (xk_X11_count _ (Nat.le_of_ble_eq_true rfl) (Nat.le_of_ble_eq_true rfl)) cr11 rfl (al 26 (by decide)) rfl (Nat.le_of_ble_eq_true rfl) dL_law_1474 h1 ?_
  refine g_aload_n hC dL_law_1477 rfl 3 rfl ?_
  refine g_aload_n hC dL_law_1478 rfl 1 rfl ?_
  refine g_iload hC dL_law_1479 0 rfl ?_
  refine g_iconst (v := 1) hC dL_law_1481 (by decide) ?_
  refine g_iadd hC dL_law_1482 ?_
  refine g_scr hC hX 1 (by decide) (by omega) dL_law_1483 ?_
  refine g_cVI (As := [.int (xs (7 * j + 1))]) hC hO (c_X12_count _ hC.2.2.2.2.2.2.1 0 rfl (al 0 (by decide)) (xs (7 * j + 1)) σ1 (nn_of h2)) gc_L_171 (xk_X12_count _ (Nat.le_of_ble_eq_true rfl) (Nat.le_of_ble_eq_true rfl)) cr12 rfl (al 0 (by decide)) rfl (Nat.le_of_ble_eq_true rfl) dL_law_1484 h2 ?_
  refine g_icmp_eq (tgt := 1492) (a := some ()) (b := none) (fo := some ()) hC dL_law_1487 (by decide) (if_pos rfl) (fun _ _ => ?_) (fun c _ => absurd rfl c)
  exact kk _ h3
