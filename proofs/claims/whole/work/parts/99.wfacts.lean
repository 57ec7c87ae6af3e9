/-! what the Statement gives of the start -/
def FL : List Cond := flatC (Jvm.Cond.and given_1 narrow_1)
def tmS (i : Nat) : Term := .string RX6 (ixS.getD i 0)
theorem fx_ex : ∀ i, i < 9 → Cond.exactly (tmS i) "java/lang/String" ∈ FL := by decide +kernel
theorem fx_co : ∀ i, i < 9 → Cond.eq (.field (tmS i) "java/lang/String" "coder" "B") (.int 0) ∈ FL := by decide +kernel
theorem fx_ar : ∀ i, i < 9 → Cond.arrayOf (.field (tmS i) "java/lang/String" "value" "[B") .byte ∈ FL := by decide +kernel
theorem fx_le : ∀ i, i < 9 → Cond.eq (.length (.field (tmS i) "java/lang/String" "value" "[B")) (.int (Int32.ofNat (lenS.getD i 0))) ∈ FL := by decide +kernel
theorem fx_el : ∀ i, i < 9 → ∀ j, j < lenS.getD i 0 → Cond.eq (.elem (.field (tmS i) "java/lang/String" "value" "[B") (.int (Int32.ofNat j))) (.int ((bytS.getD i []).getD j 0)) ∈ FL := by decide +kernel
theorem fx_ne : ∀ i, i < 9 → ∀ j, j < 9 → i ≠ j → (Cond.not (Cond.eq (tmS i) (tmS j)) ∈ FL ∨ Cond.not (Cond.eq (tmS j) (tmS i)) ∈ FL) := by decide +kernel
theorem fx_cs : Cond.eq (.static "java/lang/String" "COMPACT_STRINGS" "Z") (.int 1) ∈ FL := by decide +kernel
theorem fx_sf : Cond.isRef (.static "jdk/internal/util/Preconditions" "SIOOBE_FORMATTER" "Ljava/util/function/BiFunction;") ∈ FL := by decide +kernel
theorem fx_us : Cond.isRef (.static Bundle.tN "UNASSIGNED_STACK" Bundle.steD) ∈ FL := by decide +kernel
theorem fx_ss : Cond.isRef (.static Bundle.tN "SUPPRESSED_SENTINEL" Bundle.listD) ∈ FL := by decide +kernel
theorem fx_v : Cond.exactly (.string RX11 152) "java/lang/String" ∈ FL ∧ Cond.exactly (.string RX11 234) "java/lang/String" ∈ FL := by decide +kernel
theorem tx_sr : ∀ i, i < 9 → Cond.stringRef RX6 (ixS.getD i 0) (txS.getD i "") ∈ lw_tbl := fun i hi => by
  rcases (show i = 0 ∨ i = 1 ∨ i = 2 ∨ i = 3 ∨ i = 4 ∨ i = 5 ∨ i = 6 ∨ i = 7 ∨ i = 8 by omega) with rfl | rfl | rfl | rfl | rfl | rfl | rfl | rfl | rfl
  · exact tbl_2 _ (List.mem_of_getElem? (i := 217) rfl)
  · exact tbl_3 _ (List.mem_of_getElem? (i := 51) rfl)
  · exact tbl_3 _ (List.mem_of_getElem? (i := 56) rfl)
  · exact tbl_3 _ (List.mem_of_getElem? (i := 65) rfl)
  · exact tbl_3 _ (List.mem_of_getElem? (i := 74) rfl)
  · exact tbl_3 _ (List.mem_of_getElem? (i := 75) rfl)
  · exact tbl_3 _ (List.mem_of_getElem? (i := 76) rfl)
  · exact tbl_3 _ (List.mem_of_getElem? (i := 81) rfl)
  · exact tbl_3 _ (List.mem_of_getElem? (i := 86) rfl)
theorem tb_r : ∀ w ∈ TB, w ∈ lw_tbl := by decide +kernel
theorem ks_start {s : State} {b : Nat} (hts : ∀ w ∈ lw_tbl, w.before #[Value.ref b] s = true) (hgv : (Jvm.Cond.and given_1 narrow_1).before #[Value.ref b] s = true) : ∃ K : KT, KS K (fun q => s.heap.size ≤ q) s := by
  have hs : ∀ c ∈ FL, c.before #[Value.ref b] s = true := flat_of_before _ hgv
  have hA : ∀ a : Nat, a < s.heap.size → ¬ (fun q => s.heap.size ≤ q) a := fun a h => Nat.not_le.mpr h
  obtain ⟨adK, adV, h1, h2⟩ := vk_Sof (args := #[Value.ref b]) (s := s) (N := 9) (tm := tmS) (len := lenS) (byt := bytS) (A := fun q => s.heap.size ≤ q) (fun i hi => by have := (sx_all i hi).2.1; omega) (fun i hi => hs _ (fx_ex i hi)) (fun i hi => hs _ (fx_co i hi)) (fun i hi => hs _ (fx_ar i hi)) (fun i hi => hs _ (fx_le i hi)) (fun i hi j hj => hs _ (fx_el i hi j hj)) (fun i j hi hj hij => (fx_ne i hi j hj hij).elim (fun h => Or.inl (hs _ h)) (fun h => Or.inr (hs _ h))) hA
  exact ⟨(adK, adV), h1, fun i hi => vk_R.of (hts _ (tx_sr i hi)) (h2 i hi), va_Zof (hts _ (tbl_2 _ (List.mem_of_getElem? (i := 231) rfl))) (hts _ (tbl_1 _ (List.mem_of_getElem? (i := 15) rfl))) (va_eqi (hs _ fx_cs)) hA, va_Zqof (hts _ (tbl_3 _ (List.mem_of_getElem? (i := 7) rfl))) (hts _ (tbl_1 _ (List.mem_of_getElem? (i := 17) rfl))) (hs _ fx_sf) hA⟩
theorem ts_start {s : State} {b : Nat} (hts : ∀ w ∈ lw_tbl, w.before #[Value.ref b] s = true) (hgv : (Jvm.Cond.and given_1 narrow_1).before #[Value.ref b] s = true) : TS (fun q => s.heap.size ≤ q) s := by
  have hs : ∀ c ∈ FL, c.before #[Value.ref b] s = true := flat_of_before _ hgv
  have hA : ∀ a : Nat, a < s.heap.size → ¬ (fun q => s.heap.size ≤ q) a := fun a h => Nat.not_le.mpr h
  obtain ⟨a1, -, -, -, q1, -⟩ := Cond.exactly_spec (args := #[Value.ref b]) (first := s) (o := none) (s := s) (idx := []) (t := .string RX11 152) (cls := "java/lang/String") (hs _ fx_v.1)
  obtain ⟨a2, -, -, -, q2, -⟩ := Cond.exactly_spec (args := #[Value.ref b]) (first := s) (o := none) (s := s) (idx := []) (t := .string RX11 234) (cls := "java/lang/String") (hs _ fx_v.2)
  exact ⟨⟨a1, vk_R.of (hts _ (tbl_5 _ (List.mem_of_getElem? (i := 121) rfl))) q1⟩, ⟨a2, vk_R.of (hts _ (tbl_5 _ (List.mem_of_getElem? (i := 154) rfl))) q2⟩, vx_Zqof (hts _ (tbl_5 _ (List.mem_of_getElem? (i := 109) rfl))) (hts _ (tbl_1 _ (List.mem_of_getElem? (i := 20) rfl))) (hs _ fx_us) hA, vx_Zqof (hts _ (tbl_5 _ (List.mem_of_getElem? (i := 111) rfl))) (hts _ (tbl_1 _ (List.mem_of_getElem? (i := 20) rfl))) (hs _ fx_ss) hA, tb_mv (Vm.Alike.refl _) (fun w h => hts w (tb_r w h))⟩
theorem ao_start {s : State} {b : Nat} (hts : ∀ w ∈ lw_tbl, w.before #[Value.ref b] s = true) : AOK s := by
  refine ⟨va_AO.of (A := #[Value.ref b]) (hts _ (tbl_1 _ (List.mem_of_getElem? (i := 141) rfl))), (hts (Cond.arrayOver (.array .int)) (tbl_1 _ (List.mem_of_getElem? (i := 81) rfl))), ?_⟩
  exact List.forall_mem_cons.mpr ⟨va_Nw.of rfl (hts _ (tbl_1 _ (List.mem_of_getElem? (i := 34) rfl))), List.forall_mem_cons.mpr ⟨va_Nw.of rfl (hts _ (tbl_1 _ (List.mem_of_getElem? (i := 76) rfl))), List.forall_mem_cons.mpr ⟨va_Nw.of rfl (hts _ (tbl_1 _ (List.mem_of_getElem? (i := 114) rfl))), List.forall_mem_cons.mpr ⟨va_Nw.of rfl (hts _ (tbl_2 _ (List.mem_of_getElem? (i := 8) rfl))), List.forall_mem_cons.mpr ⟨va_Nw.of rfl (hts _ (tbl_2 _ (List.mem_of_getElem? (i := 33) rfl))), List.forall_mem_cons.mpr ⟨va_Nw.of rfl (hts _ (tbl_2 _ (List.mem_of_getElem? (i := 48) rfl))), fun _ h => nomatch h⟩⟩⟩⟩⟩⟩
theorem ar_cl {A : Array Value} {s : State} {ty : FieldType} (h : (Cond.arrayClass ty).before A s = true) : ∃ cA, ArrOfT s cA ty ∧ s.vm.findClass ("[" ++ ty.toString) = some cA := by
  obtain ⟨c, k, comp, h1, h2, h3⟩ := Cond.arrayClass_spec (args := A) (first := s) (o := none) (s := s) (idx := []) h
  exact ⟨c, fun n z => ⟨fun k h => (by cases h), k, h2, comp, h3⟩, h1⟩
theorem ar_start {s : State} {b : Nat} (hts : ∀ w ∈ lw_tbl, w.before #[Value.ref b] s = true) : ∃ Kc : Nat → ClassId, ∀ (l : Launch) (D : va_G) (ad : Nat → Nat) (lst : List Nat) (k : Nat) (q : ClassId × FieldType), (tyL (l, D, ad, Kc, lst))[k]? = some q → ArrOfT s q.1 q.2 ∧ va_RA s q.1 q.2 := by
  obtain ⟨c3, a3, b3⟩ := ar_cl (ty := .byte) (hts _ (gt_r _ (gtr_3 _ (List.mem_of_getElem? (i := 15) rfl))))
  obtain ⟨c4, a4, b4⟩ := ar_cl (ty := .int) (hts _ (gt_r _ (gtr_3 _ (List.mem_of_getElem? (i := 2) rfl))))
  obtain ⟨c5, a5, b5⟩ := ar_cl (ty := .long) (hts _ (gt_r _ (gtr_1 _ (List.mem_of_getElem? (i := 6) rfl))))
  obtain ⟨c6, a6, b6⟩ := ar_cl (ty := .boolean) (hts _ (gt_r _ (gtr_9 _ (List.mem_of_getElem? (i := 13) rfl))))
  obtain ⟨p7, c7, k7, g1, -, g3, g4, g5⟩ := Cond.arrayOver_spec (args := #[Value.ref b]) (first := s) (o := none) (s := s) (idx := []) (n := "EveryMeasure$Cone") (hts _ (tbl_1 _ (List.mem_of_getElem? (i := 141) rfl)))
  obtain ⟨c8, p8, k8, f4, -, f2, f3⟩ := ao_int (A := #[Value.ref b]) (hts _ (tbl_1 _ (List.mem_of_getElem? (i := 81) rfl)))
  refine ⟨fun i => if i = 13 then c3 else if i = 14 then c4 else if i = 15 then c5 else if i = 16 then c6 else if i = 17 then c7 else c8, fun l D ad lst k q h => ?_⟩
  match k, h with
  | 0, h => cases h; exact ⟨a3, b3⟩
  | 1, h => cases h; exact ⟨a4, b4⟩
  | 2, h => cases h; exact ⟨a5, b5⟩
  | 3, h => cases h; exact ⟨a6, b6⟩
  | 4, h => cases h; exact ⟨fun n z => ⟨fun k h => (by cases h), k7, g3, p7, g4⟩, k7, p7, g3, g4, g1, g5⟩
  | 5, h => cases h; exact ⟨fun n z => ⟨fun k h => (by cases h), k8, f2, p8, f3⟩, f4⟩
  | k + 6, h => simp [tyL] at h
theorem cl_in : ∀ q ∈ vwCl, (∀ w ∈ u_ws q.1 q.2.1 q.2.2, w ∈ GT) ∧ Cond.instantiable q.1 q.2.2 ∈ GT := List.forall_mem_cons.mpr ⟨⟨ui_0, gtr_3 _ (List.mem_of_getElem? (i := 8) rfl)⟩, List.forall_mem_cons.mpr ⟨⟨ui_1, gtr_4 _ (List.mem_of_getElem? (i := 20) rfl)⟩, List.forall_mem_cons.mpr ⟨⟨ui_2, gtr_2 _ (List.mem_of_getElem? (i := 15) rfl)⟩, List.forall_mem_cons.mpr ⟨⟨ui_3, gtr_2 _ (List.mem_of_getElem? (i := 23) rfl)⟩, List.forall_mem_cons.mpr ⟨⟨ui_4, gtr_2 _ (List.mem_of_getElem? (i := 7) rfl)⟩, List.forall_mem_cons.mpr ⟨⟨ui_5, gtr_2 _ (List.mem_of_getElem? (i := 11) rfl)⟩, List.forall_mem_cons.mpr ⟨⟨ui_6, gtr_1 _ (List.mem_of_getElem? (i := 19) rfl)⟩, List.forall_mem_cons.mpr ⟨⟨ui_7, gtr_2 _ (List.mem_of_getElem? (i := 19) rfl)⟩, List.forall_mem_cons.mpr ⟨⟨ui_8, gtr_1 _ (List.mem_of_getElem? (i := 15) rfl)⟩, List.forall_mem_cons.mpr ⟨⟨ui_9, gtr_1 _ (List.mem_of_getElem? (i := 23) rfl)⟩, List.forall_mem_cons.mpr ⟨⟨ui_10, gtr_2 _ (List.mem_of_getElem? (i := 3) rfl)⟩, List.forall_mem_cons.mpr ⟨⟨ui_11, gtr_1 _ (List.mem_of_getElem? (i := 1) rfl)⟩, List.forall_mem_cons.mpr ⟨⟨ui_12, gtr_1 _ (List.mem_of_getElem? (i := 4) rfl)⟩, fun _ h => nomatch h⟩⟩⟩⟩⟩⟩⟩⟩⟩⟩⟩⟩⟩
theorem cl_start {s : State} {b : Nat} (hts : ∀ w ∈ lw_tbl, w.before #[Value.ref b] s = true) : ∃ D : va_G, ∀ (k : Nat) (q : vw_C), vwCl[k]? = some q → u_Kn s q.1 q.2.1 q.2.2 (D.1 k) (D.2 k) := by
  have h0 : ∀ k : Nat, ∃ d : ClassId × (Nat → Nat), ∀ q : vw_C, vwCl[k]? = some q → u_Kn s q.1 q.2.1 q.2.2 d.1 d.2 := by
    intro k
    cases hk : vwCl[k]? with
    | none => exact ⟨(0, fun _ => 0), fun q h => by cases h⟩
    | some q =>
      obtain ⟨h1, h2⟩ := cl_in q (List.mem_of_getElem? hk)
      obtain ⟨cC, iS, h3⟩ := u_known (ws := GT) (s := s) (args := #[Value.ref b]) (fun w h => hts w (gt_r w h)) h1 (hts _ (gt_r _ h2))
      exact ⟨(cC, iS), fun q' h => by cases h; exact h3⟩
  obtain ⟨d, hd⟩ := Classical.axiomOfChoice h0
  exact ⟨(fun k => (d k).1, fun k => (d k).2), fun k q h => hd k q h⟩
