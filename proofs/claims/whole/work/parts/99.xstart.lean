/-! the law's start, and the claim -/
def adB (z i : Nat) : Nat := if i < 26 then z + 144 + i else if i < 170 then z + (i - 26) else z + i
theorem adB_inj {z i j : Nat} (h : adB z i = adB z j) : i = j := by
  unfold adB at h
  by_cases h1 : i < 26 <;> by_cases h2 : j < 26 <;> by_cases h3 : i < 170 <;> by_cases h4 : j < 170 <;> simp only [h1, h2, h3, h4, if_true, if_false] at h <;> omega
/-- the law calls a constructor -/
theorem l_cN {E : ET} {F : FT} {nL : Nat} {cc : ByteArray} {own : String} {Ts : List Cond} {pc : Nat} {lv : List (Nat × Value)} {st As : List Value} {σ : HS} (hC : Cx E F nL cc own Ts) {R : Room} (hO : Ro F R) (hao : AOK F.1.2.2.2.1) {y : MethodName} {ws : List Cond} {bytes : ByteArray} {maxL na index t n1 mc ms : Nat} {rm : Room} {fo : Option HS} {σ' : HS} (hz : SZ E F n1) (hA : ∀ q, F.1.2.2.2.1.heap.size ≤ q → F.1.2.2.2.2.2.1 q) (hM : CoN E n1 mc ms y ws rm (.ref (E.2.2.1 t) :: As) σ fo) (hws : ws = Cond.code y bytes maxL none :: Ts) (hG : GoodIn Ts ws) (hini : Cond.initialized y.cls ∈ Ts) (hml : Cond.methodLink own index y ∈ Ts) (him : Cond.instanceMethod y ∈ Ts) (hyn : y.name = "<init>") (hpd : y.cls ≠ "java/lang/invoke/MethodHandle" ∧ y.cls ≠ "java/lang/invoke/VarHandle" ∧ (parseMethodDescriptor y.desc).map (fun d => d.parameters.length) = some na) (hrc : rm.cells = mc) (hrs : rm.slots = ms) (hrf : rm.frames + 1 ≤ R.frames) (hrl : 8 + (maxL + 11) + rm.locals ≤ R.locals) (h1 : F.1.2.2.2.2.2.2.1 + mc ≤ R.cells) (h2 : F.1.2.2.2.2.2.2.2 + ms ≤ R.slots) (hn : As.length = na) (hW : (st.map fun v => v.category).sum ≤ 8) (hd : decode cc pc = .ok (.invokespecial index, 3)) (hs : fo = some σ') (kk : G (eR E n1 mc) (fA F mc ms) (pc + 3) lv st σ') : G E F pc lv (As.reverse ++ .ref (E.2.2.1 t) :: st) σ := by
  have hO1 : F.1.2.2.1 = R := hO
  intro hwf H locs ls hP hS hl
  refine W_sz (fun Tt hT X => ?_)
  have hsz := sz_of hz hP hS hT X
  have hts := hC.2.2.2.2.1
  have cw := cwI (R := F.1.2.2.1) (args := F.2.1) (s := F.1.2.2.2.1) (rm := rm) (mc := mc) (ms := ms) (own := own) (index := index) (y := y) (bytes := bytes) (maxL := maxL) na hts hG hws hrc hrs (hts _ hini) (hts _ hml) (hts _ him) hyn hpd (by rw [hO1]; exact ⟨hrf, hrl⟩)
  have hsub : ∀ q, aN E n1 q → F.1.2.2.2.2.2.1 q := fun q h => by
    rcases h with ⟨j, h1, h2⟩ | h
    · rw [h2]; exact hC.2.2.2.2.2.2.2.2.1 j h1
    · refine hA q ?_
      have := hz.1
      omega
  refine va_callv (va_runI (As := As) (rest := st) ⟨hC.1, hC.2.1, hC.2.2.1, hC.2.2.2.1, hC.2.2.2.2.1⟩ hM cw ⟨cn_blind E n1 _ σ, fun U hU hW => ⟨rfl, by rw [hU]; exact hsz, AOK.warm hW hao, by rw [hU]; exact hP, va_K.moved hW.alike hC.2.2.2.2.2.1, hwf⟩⟩ rfl hn (hl.1.trans hC.2.2.1) rfl (lv_room hW) hd (by rw [hO1]; exact ⟨h1, h2⟩)) hS (fun q _ h => hsub q h) hsub (fun u t1 H1 locs1 ht1 hvm hw1 hBB hz1 hk1 hS1 => ?_)
  rw [hs] at hw1
  cases hw1
  exact kk hBB.2.2 H1 locs1 ls (by rw [← ht1]; exact hBB.1) hS1 hl
theorem wc_X11_init : Cond.code yX11_init cX11_init 2 none ∈ GT := gtr_1 _ (List.mem_of_getElem? (i := 10) rfl)
theorem wc_X12_init : Cond.code yX12_init cX12_init 1 none ∈ GT := gtr_8 _ (List.mem_of_getElem? (i := 14) rfl)
set_option maxHeartbeats 4000000 in
set_option maxRecDepth 100000 in
theorem law_go {p : Program} {e : Env} {s : State} {m : MethodId} {below : List Frame} {meth : Method} {c : Code} {l : Launch} (htr : l.stackTraces = false) {b L : Nat} {xs : Nat → Int32} (hL : L ≤ 3584) (C0 : lw_At p s m meth c b L xs) (D : va_G) (Kc : Nat → ClassId) (K : KT) (hKc : ∀ (k : Nat) (q : vw_C), vwCl[k]? = some q → u_Kn s q.1 q.2.1 q.2.2 (D.1 k) (D.2 k)) (hKa : ∀ (ad : Nat → Nat) (lst : List Nat) (k : Nat) (q : ClassId × FieldType), (tyL (l, D, ad, Kc, lst))[k]? = some q → ArrOfT s q.1 q.2 ∧ va_RA s q.1 q.2) (hKS : KS K (fun q => s.heap.size ≤ q) s) (hTS : TS (fun q => s.heap.size ≤ q) s) (hao : AOK s) (E : ET) (hE : E = (l, D, adB s.heap.size, Kc, [])) (F : FT) (hF : F = ((p, e, room_1, s, m, (fun q => s.heap.size ≤ q), 0, 0), (#[Value.ref b], below, meth, c, lw_Z below #[Value.ref b] s))) : G E F 0 [(0, .ref b)] [] zH := by
  obtain ⟨hx, hb, hr, hml, hown, hts, hX, hbl, hlk, hgv⟩ := C0
  obtain ⟨σ1, σ2, e1, e2, hI⟩ := inv_new
  have ead : ∀ i, E.2.2.1 i = adB s.heap.size i := fun i => by rw [hE]
  have eAL : ∀ a, ¬ AL E a := fun a h => by rw [hE] at h; exact absurd h (List.not_mem_nil)
  have inj : ∀ i j, E.2.2.1 i = E.2.2.1 j → i = j := fun i j h => by rw [ead, ead] at h; exact adB_inj h
  have hEO : EO E := ⟨by rw [hE]; exact List.nodup_nil, fun i j h1 h2 h => inj i j h⟩
  have hgt : ∀ w ∈ GT, w.before #[Value.ref b] s = true := fun w h => hts w (gt_r w h)
  have hK : va_K E.2.1 vwCl (tyL E) s := by rw [hE]; exact ⟨hKc, fun k q h => hKa _ _ k q h⟩
  have hs : F.1.2.2.2.1 = s := by rw [hF]
  have hAq : ∀ q, F.1.2.2.2.1.heap.size ≤ q → F.1.2.2.2.2.2.1 q := fun q h => by rw [hF] at h ⊢; exact h
  have hc0 : F.1.2.2.2.2.2.2.1 = 0 := by rw [hF]
  have hs0 : F.1.2.2.2.2.2.2.2 = 0 := by rw [hF]
  have hO : Ro F room_1 := by unfold Ro; rw [hF]
  have hR1 : F.1.2.2.1 = room_1 := hO
  have hC : Cx E F 8 cL_law RL GT := by
    rw [hF]
    exact ⟨hx, hb, hml, hown, hgt, hK, hEO, hlk, fun k h => absurd h (eAL k), Nat.zero_le _, Nat.zero_le _⟩
  have hzz : ∀ i, E.2.2.1 i = F.1.2.2.2.1.heap.size + (if i < 26 then 144 + i else if i < 170 then i - 26 else i) := fun i => by
    rw [ead, hs]; unfold adB; split
    · omega
    · split <;> rfl
  have hSC : SC F b L xs := by rw [hF]; exact ⟨hX, hbl, Nat.not_le.mpr hbl, hL⟩
  have hKS' : KS K F.1.2.2.2.2.2.1 F.1.2.2.2.1 := by rw [hF]; exact hKS
  have hTX : TX F := by rw [hF]; exact ⟨hTS, fun w h => hts w (tw_r w h)⟩
  have hLQ : LQ F b := by rw [hF]; exact ⟨rfl, hr, rfl, fun q h => h⟩
  have hao' : AOK F.1.2.2.2.1 := by rw [hs]; exact hao
  have hE1 : E.1 = l := by rw [hE]
  clear hE hF
  refine g_new (id := 26) hC cr11 ui_11 tyX11_ok (by decide) (gtr_1 _ (List.mem_of_getElem? (i := 0) rfl)) (gtr_1 _ (List.mem_of_getElem? (i := 1) rfl)) (gtr_1 _ (List.mem_of_getElem? (i := 2) rfl)) rfl (eAL 26) ⟨by rw [hzz, hc0]; rfl, Or.inl hc0⟩ hAq (by rw [hc0, hR1]; exact (Nat.le_of_ble_eq_true rfl)) (by rw [hs0, hR1]; exact (Nat.le_of_ble_eq_true rfl)) dL_law_0 (fun hC1 => ?_)
  refine g_dup hC1 dL_law_3 rfl ?_
  have al1 : ∀ a, AL (eA E [26]) a → a = 26 := fun a h => by
    rcases al_eA.mp h with h | h
    · exact absurd h (eAL a)
    · exact List.mem_singleton.mp h
  refine l_cN (As := []) (t := 26) (n1 := 27) (mc := 143) (ms := 5643) (na := 0) (σ' := σ1) hC1 (R := room_1) hO hao' ⟨by show E.2.2.1 27 = F.1.2.2.2.1.heap.size + (F.1.2.2.2.2.2.2.1 + 1); rw [hzz, hc0]; rfl, Or.inr ⟨26, al_eA.mpr (Or.inr List.mem_cons_self), by show E.2.2.1 26 + 1 = F.1.2.2.2.1.heap.size + (F.1.2.2.2.2.2.2.1 + 1); rw [hzz, hc0]; rfl⟩⟩ hAq
    (c_X11_init_26 (eA E [26]) hC1.2.2.2.2.2.2.1 (al_eA.mpr (Or.inr List.mem_cons_self)) (fun j h1 h2 h => by have := al1 j h; omega) (fun j h1 h2 => by show E.2.2.1 j + 27 = E.2.2.1 27 + j; rw [hzz, hzz, if_neg (by omega), if_pos (by omega), if_neg (by omega), if_pos (by omega)]; omega) inj (sN zH 26) (nn_of e1)) rfl (gi_I wc_X11_init) (gtr_1 _ (List.mem_of_getElem? (i := 2) rfl)) (gtr_1 _ (List.mem_of_getElem? (i := 8) rfl)) (gtr_1 _ (List.mem_of_getElem? (i := 9) rfl)) rfl ⟨by decide, by decide, by decide +kernel⟩ rfl rfl (Nat.le_of_ble_eq_true rfl) (Nat.le_of_ble_eq_true rfl) (by show F.1.2.2.2.2.2.2.1 + 1 + 143 ≤ 601024; omega) (by show F.1.2.2.2.2.2.2.2 + 19 + 5643 ≤ 7293034; omega) rfl (Nat.le_of_ble_eq_true rfl) dL_law_4 e1 ?_
  have hE2 : EO (eR (eA E [26]) 27 143) := by
    refine ⟨?_, fun i j h1 h2 h => inj i j h⟩
    show ((E.2.2.2.2 ++ [26]) ++ rg 27 143).Nodup
    have e0 : E.2.2.2.2 = [] := List.eq_nil_iff_forall_not_mem.mpr (fun a h => eAL a h)
    rw [e0]
    decide +kernel
  have hC2 : Cx (eR (eA E [26]) 27 143) (fA (fA F 1 19) 143 5643) 8 cL_law RL GT := ⟨hC1.1, hC1.2.1, hC1.2.2.1, hC1.2.2.2.1, hC1.2.2.2.2.1, hC1.2.2.2.2.2.1, hE2, hC1.2.2.2.2.2.2.2.1, fun k h => hAq _ (by show F.1.2.2.2.1.heap.size ≤ E.2.2.1 k; rw [hzz]; exact Nat.le_add_right _ _), by show F.1.2.2.2.2.2.2.1 + 1 + 143 ≤ F.1.2.2.1.cells; rw [hR1]; show _ ≤ 601024; omega, by show F.1.2.2.2.2.2.2.2 + 19 + 5643 ≤ F.1.2.2.1.slots; rw [hR1]; show _ ≤ 7293034; omega⟩
  have al2 : ∀ a, AL (eR (eA E [26]) 27 143) a ↔ 26 ≤ a ∧ a < 170 := fun a => by
    rw [al_R]
    constructor
    · rintro (h | h)
      · have := al1 a h; omega
      · omega
    · intro h
      by_cases q : a = 26
      · exact Or.inl (al_eA.mpr (Or.inr (by rw [q]; exact List.mem_cons_self)))
      · exact Or.inr (by omega)
  refine g_astore_n (lv' := [(1, .ref (E.2.2.1 26)), (0, .ref b)]) hC2 dL_law_7 rfl (by decide) rfl ?_
  generalize hEE : eR (eA E [26]) 27 143 = E2 at hC2 al2 ⊢
  have ad2 : ∀ i, E2.2.2.1 i = E.2.2.1 i := fun i => by rw [← hEE]; rfl
  have l2 : E2.1 = E.1 := by rw [← hEE]; rfl
  refine g_new (id := 0) hC2 cr12 ui_12 tyX12_ok (by decide) (gtr_1 _ (List.mem_of_getElem? (i := 3) rfl)) (gtr_1 _ (List.mem_of_getElem? (i := 4) rfl)) (gtr_1 _ (List.mem_of_getElem? (i := 5) rfl)) rfl (fun h => by have := (al2 0).mp h; omega) ⟨by rw [ad2]; show E.2.2.1 0 = F.1.2.2.2.1.heap.size + (F.1.2.2.2.2.2.2.1 + 1 + 143); rw [hzz, hc0]; rfl, Or.inr ⟨169, (al2 169).mpr (by omega), by rw [ad2]; show E.2.2.1 169 + 1 = F.1.2.2.2.1.heap.size + (F.1.2.2.2.2.2.2.1 + 1 + 143); rw [hzz, hc0]; rfl⟩⟩ hAq (by show F.1.2.2.2.2.2.2.1 + 1 + 143 + 1 ≤ F.1.2.2.1.cells; rw [hR1]; show _ ≤ 601024; omega) (by show F.1.2.2.2.2.2.2.2 + 19 + 5643 + 39 ≤ F.1.2.2.1.slots; rw [hR1]; show _ ≤ 7293034; omega) dL_law_8 (fun hC3 => ?_)
  refine g_dup hC3 dL_law_11 rfl ?_
  have al3 : ∀ a, AL (eA E2 [0]) a ↔ a = 0 ∨ (26 ≤ a ∧ a < 170) := fun a => by
    rw [al_eA, al2, List.mem_singleton]; omega
  refine l_cN (As := []) (t := 0) (n1 := 1) (mc := 24) (ms := 7985) (na := 0) (σ' := σ2) hC3 (R := room_1) hO hao' ⟨by show E2.2.2.1 1 = F.1.2.2.2.1.heap.size + (F.1.2.2.2.2.2.2.1 + 1 + 143 + 1); rw [ad2, hzz, hc0]; rfl, Or.inr ⟨0, (al3 0).mpr (Or.inl rfl), by show E2.2.2.1 0 + 1 = F.1.2.2.2.1.heap.size + (F.1.2.2.2.2.2.2.1 + 1 + 143 + 1); rw [ad2, hzz, hc0]; rfl⟩⟩ hAq
    (c_X12_init_0 (eA E2 [0]) hC3.2.2.2.2.2.2.1 ((al3 0).mpr (Or.inl rfl)) (fun j h1 h2 h => by have := (al3 j).mp h; omega) (fun j h1 h2 => by show E2.2.2.1 j + 1 = E2.2.2.1 1 + j; rw [ad2, ad2, hzz, hzz, if_pos (by omega), if_pos (by omega)]; omega) (fun i j h => inj i j (by rw [← ad2, ← ad2]; exact h)) (sN σ1 0) (nn_of e2)) rfl (gi_I wc_X12_init) (gtr_1 _ (List.mem_of_getElem? (i := 5) rfl)) (gtr_8 _ (List.mem_of_getElem? (i := 12) rfl)) (gtr_8 _ (List.mem_of_getElem? (i := 13) rfl)) rfl ⟨by decide, by decide, by decide +kernel⟩ rfl rfl (Nat.le_of_ble_eq_true rfl) (Nat.le_of_ble_eq_true rfl) (by show F.1.2.2.2.2.2.2.1 + 1 + 143 + 1 + 24 ≤ 601024; omega) (by show F.1.2.2.2.2.2.2.2 + 19 + 5643 + 39 + 7985 ≤ 7293034; omega) rfl (Nat.le_of_ble_eq_true rfl) dL_law_12 e2 ?_
  have al4 : ∀ a, AL (eR (eA E2 [0]) 1 24) a ↔ a < 25 ∨ (26 ≤ a ∧ a < 170) := fun a => by
    rw [al_R, al3]; omega
  have hE4 : EO (eR (eA E2 [0]) 1 24) := by
    refine ⟨?_, fun i j h1 h2 h => inj i j (by rw [← ad2, ← ad2]; exact h)⟩
    show ((E2.2.2.2.2 ++ [0]) ++ rg 1 24).Nodup
    have e0 : E.2.2.2.2 = [] := List.eq_nil_iff_forall_not_mem.mpr (fun a h => eAL a h)
    rw [← hEE]
    show ((((E.2.2.2.2 ++ [26]) ++ rg 27 143) ++ [0]) ++ rg 1 24).Nodup
    rw [e0]
    decide +kernel
  have hC4 : Cx (eR (eA E2 [0]) 1 24) (fA (fA (fA (fA F 1 19) 143 5643) 1 39) 24 7985) 8 cL_law RL GT := ⟨hC3.1, hC3.2.1, hC3.2.2.1, hC3.2.2.2.1, hC3.2.2.2.2.1, hC3.2.2.2.2.2.1, hE4, hC3.2.2.2.2.2.2.2.1, fun k h => hAq _ (by show F.1.2.2.2.1.heap.size ≤ E2.2.2.1 k; rw [ad2, hzz]; exact Nat.le_add_right _ _), by show F.1.2.2.2.2.2.2.1 + 1 + 143 + 1 + 24 ≤ F.1.2.2.1.cells; rw [hR1]; show _ ≤ 601024; omega, by show F.1.2.2.2.2.2.2.2 + 19 + 5643 + 39 + 7985 ≤ F.1.2.2.1.slots; rw [hR1]; show _ ≤ 7293034; omega⟩
  generalize hE5 : eR (eA E2 [0]) 1 24 = E4 at hC4 al4 ⊢
  have ad4 : ∀ i, E4.2.2.1 i = E.2.2.1 i := fun i => by rw [← hE5]; exact ad2 i
  have l4 : E4.1 = E.1 := by rw [← hE5]; exact l2
  refine g_astore_n (lv' := [(2, .ref (E2.2.2.1 0)), (1, .ref (E.2.2.1 26)), (0, .ref b)]) hC4 dL_law_15 rfl (by decide) rfl ?_
  refine g_iconst (v := 1) hC4 dL_law_16 (by decide) ?_
  refine g_newJ (id := 25) (N := 1) hC4 rfl (gtr_1 _ (List.mem_of_getElem? (i := 6) rfl)) (by decide) (by decide) rfl (by decide) (fun h => by have := (al4 25).mp h; omega) ⟨by rw [ad4]; show E.2.2.1 25 = F.1.2.2.2.1.heap.size + (F.1.2.2.2.2.2.2.1 + 1 + 143 + 1 + 24); rw [hzz, hc0]; rfl, Or.inr ⟨24, (al4 24).mpr (by omega), by rw [ad4]; show E.2.2.1 24 + 1 = F.1.2.2.2.1.heap.size + (F.1.2.2.2.2.2.2.1 + 1 + 143 + 1 + 24); rw [hzz, hc0]; rfl⟩⟩ hAq (by show F.1.2.2.2.2.2.2.1 + 1 + 143 + 1 + 24 + 1 ≤ F.1.2.2.1.cells; rw [hR1]; show _ ≤ 601024; omega) (by show F.1.2.2.2.2.2.2.2 + 19 + 5643 + 39 + 7985 + 1 ≤ F.1.2.2.1.slots; rw [hR1]; show _ ≤ 7293034; omega) dL_law_17 (fun hC5 => ?_)
  refine g_astore_n (lv' := [(3, .ref (E4.2.2.1 25)), (2, .ref (E2.2.2.1 0)), (1, .ref (E.2.2.1 26)), (0, .ref b)]) hC5 dL_law_19 rfl (by decide) rfl ?_
  refine g_iconst (v := 0) hC5 dL_law_20 (by decide) ?_
  refine g_istore (lv' := [(4, .int (nI (7 * 0))), (3, .ref (E4.2.2.1 25)), (2, .ref (E2.2.2.1 0)), (1, .ref (E.2.2.1 26)), (0, .ref b)]) hC5 dL_law_21 (by decide) rfl ?_
  rw [ad2 0, ad4 25]
  have fin := lw_loop (E := eA E4 [25]) (K := K) (b := b) (L := L) (xs := xs) 512 (fA (fA (fA (fA (fA F 1 19) 143 5643) 1 39) 24 7985) 1 1) 0 (sN σ2 25) ⟨hC5, hO, hSC, hKS', hTX, fun a ha => by
    by_cases q : a = 25
    · exact al_eA.mpr (Or.inr (by rw [q]; exact List.mem_cons_self))
    · exact al_eA.mpr (Or.inl ((al4 a).mpr (by omega))), by show E4.1.stackTraces = false; rw [l4, hE1]; exact htr⟩ hLQ (by show F.1.2.2.2.2.2.2.1 + 1 + 143 + 1 + 24 + 1 + 512 ≤ 601024; omega) (by show F.1.2.2.2.2.2.2.2 + 19 + 5643 + 39 + 7985 + 1 + 6 * 512 ≤ 7293034; omega) (by omega) (by omega) (inv_sN hI)
  have fin : G (eA E4 [25]) (fA (fA (fA (fA (fA F 1 19) 143 5643) 1 39) 24 7985) 1 1) 23 [(4, .int (nI (7 * 0))), (0, .ref b), (1, .ref (E4.2.2.1 26)), (2, .ref (E4.2.2.1 0)), (3, .ref (E4.2.2.1 25))] [] (sN σ2 25) := fin
  rw [ad4, ad4, ad4] at fin
  exact g_sub [0, 4, 3, 2, 1] rfl fin
theorem whole_start {p : Program} {e : Env} {s : State} {m : MethodId} {below : List Frame} {meth : Method} {c : Code} (l : Launch) (htr : l.stackTraces = false) {b L : Nat} {xs : Nat → Int32} (hL : L ≤ 3584) (C0 : lw_At p s m meth c b L xs) : W p l e room_1 s m #[Value.ref b] below meth c s.heap [] 0 0 (lw_Z below #[Value.ref b] s) (entryFrame m ([Value.ref b] : List Value).toArray 8) := by
  have hts := C0.2.2.2.2.2.1
  have hml : c.maxLocals = 8 := C0.2.2.2.1
  obtain ⟨D, hKc⟩ := cl_start hts
  obtain ⟨Kc, hKa⟩ := ar_start hts
  obtain ⟨K, hKS⟩ := ks_start hts C0.2.2.2.2.2.2.2.2.2
  have hent := lv_entry [Value.ref b] (n := 8) (Nat.le_of_ble_eq_true rfl)
  rw [lg_entry_eq]
  exact law_go (e := e) (below := below) htr hL C0 D Kc K hKc (fun ad lst k q h => hKa l D ad lst k q h) hKS (ts_start hts C0.2.2.2.2.2.2.2.2.2) (ao_start hts) _ rfl _ rfl (fun a k b h => absurd h (List.not_mem_nil)) s.heap [] _ (fun k q h => by simp [wl] at h) va_S.rf (by show lv_has _ c.maxLocals _; rw [hml]; exact hent)
set_option maxHeartbeats 4000000 in
theorem lw_walk (l : Launch) (htr : l.stackTraces = false) (b : Addr) (xs : List Int32) : MetFree l x (headSpec (Jvm.Cond.code x code maxLocals ret :: tables_1) room_1) (lw_P b xs) (fun _ _ _ _ _ => True) lw_Q := by
  refine MetFree.of_bodyS (code := code) (maxLocals := maxLocals) (ret := ret) (by decide) ?_ ?_
  · intro args s m h hn
    obtain ⟨meth, c, h1, h2, h3, h4, h5, h6, -, -⟩ := Cond.code_spec hn (atoms_spec (ws := Jvm.Cond.code x code maxLocals ret :: tables_1) h _ List.mem_cons_self)
    exact ⟨meth, c, h1, h2, h3, h4, h5, h6⟩
  · intro p e s m args below meth c s₁ B hml0 hP _
    obtain ⟨rfl, hx, hbd, hgv⟩ := hP
    obtain ⟨scr, harrAt, hlist, hof, hsmall⟩ := hx
    obtain ⟨hcb, hkn, -, -⟩ := State.arrayAt?_spec harrAt
    have hown : s.vm.findClass R_law = some m.cls := findClass_of_methodNamed B.named
    have hts0 : ∀ c ∈ (Jvm.Cond.code x code maxLocals ret :: tables_1), c.before #[Value.ref b] s = true := atoms_spec (ws := Jvm.Cond.code x code maxLocals ret :: tables_1) B.pre
    have hts : ∀ w ∈ lw_tbl, w.before #[Value.ref b] s = true := k2_hts_sels lw_privs (fun w hw => hts0 w (List.mem_cons_of_mem _ hw)) lw_privs_ok
    have hml : c.maxLocals = 8 := B.maxLocals_eq (hts0 _ List.mem_cons_self)
    have X₀ : Stand p l e room_1 s m #[Value.ref b] below meth c s₁ [] 0 0 := Stand.of_body B
    have hh0 : s₁.heap = s.heap := by rw [B.state]; rfl
    have hsz : scr.slots.size = xs.length := by rw [← Array.length_toList, hlist, List.length_map]
    have hval : ∀ j : Nat, j < xs.length → scr.slots[j]? = some (.int (xs.getD j 0)) := fun j hj => by
      rw [← Array.getElem?_toList, hlist]
      simp [hj]
    have hbl : b < s.heap.size := (Array.getElem?_eq_some_iff.mp hcb).1
    have hX : va_X b xs.length (fun j => xs.getD j 0) s s.heap := ⟨scr, hcb, hof, hkn, hsz, hval⟩
    have K : W p l e room_1 s m #[Value.ref b] below meth c s₁.heap [] 0 0 (lw_Z below #[Value.ref b] s) (entryFrame m ([Value.ref b] : List Value).toArray 8) := by
      rw [hh0]
      exact whole_start l htr hbd ⟨B.exec, B.bytes, B.returns, hml, hown, hts, hX, hbl, B.notSynchronized, hgv⟩
    obtain ⟨t, a1, o, b1, b2, b3⟩ := K s₁ rfl X₀
    exact ⟨t, o, a1, b1, b2, b3⟩
theorem lw_pre_spec {args : Array Value} {s : State} (h : (Jvm.Cond.and given_1 narrow_1).before args s = true) (hr : rest_1_c.before args s = true) : ∃ (b : Addr) (xs : List Int32), lw_P b xs args s := by
  have hs := flat_of_before _ h
  have hq := flat_of_before _ hr
  have hc : (Cond.count 1).before args s = true := hs _ (by decide +kernel)
  have harr : (Cond.arrayOf (.arg 0) .int).before args s = true := hs _ (by decide +kernel)
  have hle : (Cond.le (.length (.arg 0)) (.int 3584)).before args s = true := hs _ (by decide +kernel)
  have hlen : (Cond.isInt (.length (.arg 0))).before args s = true := hq _ (by decide +kernel)
  have hall : (Cond.all (.arg 0) (.isInt (.elem (.arg 0) (.index 0)))).before args s = true := hq _ (by decide +kernel)
  obtain ⟨b, xs, hb, hx⟩ := State.ints_of_pre rfl harr hlen hall
  have hsm : xs.length < 2 ^ 31 := hx.choose_spec.2.2.2
  have hev : (Term.length (.arg 0)).eval args s none [] s = some (.int xs.length.toInt32) := hx.length_eval hb
  have hv := Cond.le_ints hev (show (Term.int 3584).eval args s none [] s = some (.int 3584) from rfl)
  have hd : xs.length.toInt32 ≤ 3584 := by
    simpa [Cond.before, Cond.holds, hv] using hle
  have hN : xs.length ≤ 3584 := (Int32.ofNat_le_ofNat hsm (by decide)).mp (show Int32.ofNat xs.length ≤ Int32.ofNat 3584 from hd)
  exact ⟨b, xs, Cond.one_arg hc (show args[0]? = some (.ref b) from hb), hx, hN, h⟩
theorem lw_comes (l : Launch) (htr : l.stackTraces = false) : Comes l x (Jvm.Cond.code x code maxLocals ret :: tables_1) room_1 (fun tb e args s => Calls_1 tb e args s ∧ rest_1 tb e args s ∧ Pre_1 tb e args s)
    (fun _ _ args s o t => lw_Q args s o t) := by
  intro p e ha hc hk s m args below hf hfit hheap happ hpre
  obtain ⟨b, xs, hP⟩ := lw_pre_spec hpre.2.2 hpre.2.1
  obtain ⟨k, o, h1, h2, h3, hQ⟩ := lw_walk l htr b xs p e ha hc hk s m args below hf ((Spec.applies_iff_loose hf).mp happ).1 hP trivial
  exact ⟨k, o, h1, h2, h3, hQ⟩
theorem lw_frame {s t : State} {o : Outcome} {args : Array Value} (h : Framed s o t [] 601024 7293034) :
    Framed s o t (fieldLocs frame_1_writes args s ++ arrayLocs frame_1_arrays args s ++ staticLocs frame_1_statics s) 601024 7293034 := h
theorem lw_limb (L : Cond) (hL : ∀ (args : Array Value) (s t : State), L.after args s (.returned (some (.int 1))) t = true) :
    ArmFor flags0 classFile x code maxLocals ret World_1 tables_1 room_1 Calls_1 rest_1 Pre_1
      (fun tb e a s o t => postC L tb e a s o t ∧ Framed s o t (fieldLocs frame_1_writes a s ++ arrayLocs frame_1_arrays a s ++ staticLocs frame_1_statics s) 601024 7293034) := by
  intro l hfl _ _ p e ha hc hk s m args below hf hfit hheap happ hpre
  have htr : l.stackTraces = false := by unfold Launch.stackTraces; rw [hfl]; decide +kernel
  obtain ⟨k, o, h1, h2, h3, rfl, hF⟩ := lw_comes l htr p e ha hc hk s m args below hf hfit hheap happ hpre
  exact ⟨k, _, h1, h2, h3, hL args s _, lw_frame hF⟩
theorem i_vc : Claimed_1_1 ∧ Claimed_1_2 := ⟨lw_limb limb_1_1 (fun args s t => by simp [limb_1_1, Cond.after, Cond.holds, Cond.value]), lw_limb limb_1_2 (fun args s t => Cond.after_iff.mpr (by
  first | (rw [show limb_1_2 = Cond.eq .result (.int 1) from rfl, Cond.eq_ints (x := 1) (y := 1) rfl rfl]; simp; done) | (simp [limb_1_2, Cond.value, Term.eval]; done)))⟩
