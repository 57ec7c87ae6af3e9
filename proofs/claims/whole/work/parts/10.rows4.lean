/-- new int[N][4]: the outer array id, the inner ones behind it -/
def idl (id N : Nat) : List Nat := id :: (List.range N).map (fun i => id + 1 + i)
def sM (σ : HS) (id N : Nat) : HS := (fun a => if id ≤ a ∧ a ≤ id + N then (fun _ => 0) else σ.1 a, fun a => if id ≤ a ∧ a ≤ id + N then (fun _ => 0) else σ.2.1 a, fun a => if a = id then (fun i => if i < N then some (id + 1 + i) else none) else if id ≤ a ∧ a ≤ id + N then (fun _ => none) else σ.2.2 a)
theorem idl_mem {id N a : Nat} : a ∈ idl id N ↔ id ≤ a ∧ a ≤ id + N := by
  unfold idl
  rw [List.mem_cons, List.mem_map]
  constructor
  · rintro (rfl | ⟨i, hi, rfl⟩)
    · omega
    · have := List.mem_range.mp hi; omega
  · intro h
    by_cases e : a = id
    · exact Or.inl e
    · exact Or.inr ⟨a - id - 1, List.mem_range.mpr (by omega), by omega⟩
theorem idl_nodup (id N : Nat) : (idl id N).Nodup := by
  unfold idl
  rw [List.nodup_cons]
  refine ⟨fun h => ?_, ?_⟩
  · obtain ⟨i, -, h⟩ := List.mem_map.mp h; omega
  · apply List.Pairwise.map (R := fun a b => a ≠ b) (S := fun a b => a ≠ b)
    · intro a b h e; exact h (by omega)
    · exact List.nodup_range
theorem sM_n {σ : HS} {id N x : Nat} (h : ¬ (id ≤ x ∧ x ≤ id + N)) : (sM σ id N).1 x = σ.1 x ∧ (sM σ id N).2.1 x = σ.2.1 x ∧ (sM σ id N).2.2 x = σ.2.2 x := ⟨if_neg h, if_neg h, (if_neg (fun e => h (by omega))).trans (if_neg h)⟩
theorem wl_eM {E : ET} {σ : HS} {id N : Nat} (hid : ∀ a, a ∈ idl id N → ¬ AL E a) : wl (eA E (idl id N)) (sM σ id N) = wl E σ ++ (idl id N).map (fun a => (E.2.2.1 a, ce E (sM σ id N) a)) := by
  show (E.2.2.2.2 ++ idl id N).map (fun a => (E.2.2.1 a, ce (eA E (idl id N)) (sM σ id N) a)) = _
  rw [List.map_append]
  congr 1
  apply List.map_congr_left
  intro a ha
  have hs := sM_n (σ := σ) (id := id) (N := N) (x := a) (fun e => hid a (idl_mem.mpr e) ha)
  show (E.2.2.1 a, ce E (sM σ id N) a) = _
  rw [ce_same hs.1 hs.2.1 hs.2.2]
theorem EO_eM {E : ET} {id N : Nat} (hE : EO E) (hid : ∀ a, a ∈ idl id N → ¬ AL E a) (had : ∀ a, a ∈ idl id N → E.2.2.1 a + id = E.2.2.1 id + a) (hlt : ∀ k, AL E k → E.2.2.1 k < E.2.2.1 id) : EO (eA E (idl id N)) := by
  refine ⟨?_, ?_⟩
  · show (E.2.2.2.2 ++ idl id N).Nodup
    rw [List.nodup_append]
    refine ⟨hE.1, idl_nodup id N, ?_⟩
    intro a ha b hb e
    exact hid b hb (by rw [← e]; exact ha)
  · intro i j hi hj e
    have e : E.2.2.1 i = E.2.2.1 j := e
    rcases al_eA.mp hi with h | h <;> rcases al_eA.mp hj with g | g
    · exact hE.2 i j h g e
    · have := hlt i h; have := had j g; have := idl_mem.mp g; omega
    · have := hlt j g; have := had i h; have := idl_mem.mp h; omega
    · have := had i h; have := had j g; omega
theorem wf_eM {E : ET} {σ : HS} {id N : Nat} (hwf : wf E σ) : wf (eA E (idl id N)) (sM σ id N) := by
  intro a k b ha hb
  by_cases c : a = id
  · subst c
    have hb : (if k < N then some (a + 1 + k) else none) = some b := by
      have e : (sM σ a N).2.2 a = (fun i => if i < N then some (a + 1 + i) else none) := if_pos rfl
      rw [e] at hb; exact hb
    by_cases g : k < N
    · rw [if_pos g] at hb; cases hb
      exact al_eA.mpr (Or.inr (idl_mem.mpr (by omega)))
    · rw [if_neg g] at hb; cases hb
  · by_cases d : id ≤ a ∧ a ≤ id + N
    · have e : (sM σ id N).2.2 a = (fun _ => none) := (if_neg c).trans (if_pos d)
      rw [e] at hb; cases hb
    · rw [(sM_n (σ := σ) d).2.2] at hb
      rcases al_eA.mp ha with h | h
      · exact al_eA.mpr (Or.inl (hwf a k b h hb))
      · exact absurd (idl_mem.mp h) d
theorem cx_eM {E : ET} {F : FT} {nL : Nat} {cc : ByteArray} {own : String} {Ts : List Cond} (hC : Cx E F nL cc own Ts) {l : List Nat} {c n : Nat} (hE : EO (eA E l)) (hA : ∀ a, a ∈ l → F.1.2.2.2.2.2.1 (E.2.2.1 a)) (h1 : F.1.2.2.2.2.2.2.1 + c ≤ F.1.2.2.1.cells) (h2 : F.1.2.2.2.2.2.2.2 + n ≤ F.1.2.2.1.slots) : Cx (eA E l) (fA F c n) nL cc own Ts :=
  ⟨hC.1, hC.2.1, hC.2.2.1, hC.2.2.2.1, hC.2.2.2.2.1, hC.2.2.2.2.2.1, hE, hC.2.2.2.2.2.2.2.1, fun k hk => by
    rcases al_eA.mp hk with h | h
    · exact hC.2.2.2.2.2.2.2.2.1 k h
    · exact hA k h, h1, h2⟩
section GM
variable {E : ET} {F : FT} {nL : Nat} {cc : ByteArray} {own : String} {Ts : List Cond} {pc : Nat} {lv : List (Nat × Value)} {st : List Value} {σ : HS}
theorem g_mna (hC : Cx E F nL cc own Ts) {index id N : Nat} {n k : Int32} (hk0 : kd id = 18) (hl0 : ln id = N) (hki : ∀ i, i < N → kd (id + 1 + i) = 14 ∧ ln (id + 1 + i) = 4) (hcl : Cond.classLink own index "[[I" ∈ Ts) (hov : (Cond.arrayOver (.array .int)).before F.2.1 F.1.2.2.2.1 = true) (harr : Cond.arrayClass .int ∈ Ts) (hn : ¬ n < 0) (hk : ¬ k < 0) (hN : n.toNatClampNeg = N) (hM : k.toNatClampNeg = 4) (hbn : N * 4 ≤ 536870912) (hid : ∀ a, a ∈ idl id N → ¬ AL E a) (had : ∀ a, a ∈ idl id N → E.2.2.1 a + id = E.2.2.1 id + a) (hz : SZ E F id) (hA : ∀ q, F.1.2.2.2.1.heap.size ≤ q → F.1.2.2.2.2.2.1 q) (h1 : F.1.2.2.2.2.2.2.1 + (1 + N) ≤ F.1.2.2.1.cells) (h2 : F.1.2.2.2.2.2.2.2 + (N + N * 4) ≤ F.1.2.2.1.slots) (hd : decode cc pc = .ok (.multianewarray index 2, 4))
    (kk : Cx (eA E (idl id N)) (fA F (1 + N) (N + N * 4)) nL cc own Ts → G (eA E (idl id N)) (fA F (1 + N) (N + N * 4)) (pc + 4) lv (.ref (E.2.2.1 id) :: st) (sM σ id N)) : G E F pc lv (.int k :: .int n :: st) σ := by
  subst hN
  intro hwf H locs ls hP hS hlv T hT Xs
  have hsz := sz_of hz hP hS hT Xs
  obtain ⟨vm₁, cA, comp, fA1, fC, X', step⟩ := x_mna Xs hC.1 hC.2.2.2.1 (hC.2.2.2.2.1 _ hcl) hov (hC.2.2.2.2.1 _ harr) (g := F0 F.1.2.2.2.2.1 pc ls (.int k :: .int n :: st)) rfl (by rw [hC.2.1]; exact hd) rfl hn hk hbn (by rw [hM]; decide) h1 (by rw [hM]; exact h2)
  have ec : some (E.2.2.2.1 14) = some comp := ((hC.2.2.2.2.2.1.2 1 _ rfl).2.symm.trans fC)
  cases ec
  have eA1 : cA = E.2.2.2.1 18 := Option.some.inj (fA1.symm.trans (hC.2.2.2.2.2.1.2 5 _ rfl).2)
  subst eA1
  rw [hM] at X' step
  obtain ⟨f1, f2, -, -, hold, hrow⟩ := mt_f (T.setVm vm₁) (E.2.2.2.1 18) (E.2.2.2.1 14) n.toNatClampNeg 4 n.toNatClampNeg
  generalize mt (T.setVm vm₁) (E.2.2.2.1 18) (E.2.2.2.1 14) n.toNatClampNeg 4 n.toNatClampNeg = FF at X' step f1 f2 hold hrow
  have hTh : (T.setVm vm₁).heap = H := hT
  have hTs : T.heap.size = H.size := by rw [hT]
  rw [hTh] at f1 f2 hold hrow
  rw [hTs] at X'
  unfold mo at f2
  rw [hsz] at f2
  have hw2 : va_P E.2.1 vwCl (wl (eA E (idl id n.toNatClampNeg)) (sM σ id n.toNatClampNeg)) FF.heap := by
    rw [wl_eM hid]
    refine (hP.kept (fun k9 x hx => hold x.1 ((hP k9 x hx).lt))).app (fun k9 x hx => ?_)
    obtain ⟨a, ha, rfl⟩ := List.mem_map.mp (List.mem_of_getElem? hx)
    have hm := idl_mem.mp ha
    have hda := had a ha
    by_cases e : a = id
    · subst e
      rw [ce_R hk0 (by decide)]
      show FF.heap[E.2.2.1 a]? = _
      rw [f2, hl0]
      have e2 : (sM σ a n.toNatClampNeg).2.2 a = (fun i => if i < n.toNatClampNeg then some (a + 1 + i) else none) := if_pos rfl
      rw [e2]
      refine congrArg some ((congrArg (arrV (E.2.2.2.1 18) n.toNatClampNeg) (funext fun j => ?_)).trans (vp_cell_q _ _ _).symm)
      by_cases g : j < n.toNatClampNeg
      · rw [if_pos g]
        show _ = va_rf (Option.map E.2.2.1 (if j < n.toNatClampNeg then some (a + 1 + j) else none))
        rw [if_pos g]
        have := had (a + 1 + j) (idl_mem.mpr (by omega))
        have h7 : E.2.2.1 a + 1 + j = E.2.2.1 (a + 1 + j) := by omega
        exact congrArg Value.ref h7
      · rw [if_neg g]
        show _ = va_rf (Option.map E.2.2.1 (if j < n.toNatClampNeg then some (a + 1 + j) else none))
        rw [if_neg g]; rfl
    · obtain ⟨g1, g2⟩ := hki (a - id - 1) (by omega)
      rw [show id + 1 + (a - id - 1) = a by omega] at g1 g2
      rw [ce_I g1 (by decide)]
      show FF.heap[E.2.2.1 a]? = _
      have := hrow (a - id - 1) (by omega)
      rw [show H.size + 1 + (a - id - 1) = E.2.2.1 a by omega] at this
      rw [this, g2]
      have e2 : (sM σ id n.toNatClampNeg).1 a = (fun _ => 0) := if_pos hm
      rw [e2]
      rfl
  have hlt : ∀ k9, AL E k9 → E.2.2.1 k9 < E.2.2.1 id := fun k9 h => by
    have := al_lt hP h
    omega
  obtain ⟨t, a1, b1⟩ := kk (cx_eM hC (EO_eM hC.2.2.2.2.2.2.1 hid had hlt) (fun a ha => hA _ (by have := had a ha; have := idl_mem.mp ha; have := hz.1; omega)) h1 h2) (wf_eM hwf) FF.heap _ ls hw2 ⟨by show F.1.2.2.2.1.heap.size ≤ FF.heap.size; rw [f1]; have := hS.1; omega, fun x g1 g2 => (hold x (Nat.lt_of_lt_of_le g1 hS.1)).trans (hS.2.1 x g1 g2), fun z hz9 => (List.mem_append.mp hz9).elim (hS.2.2 z) (fun hz8 => by
    obtain ⟨i, -, rfl⟩ := List.mem_map.mp hz8
    exact hA _ hS.1)⟩ hlv FF rfl X'
  refine ⟨t, step t ?_, b1⟩
  have e : T.heap.size = E.2.2.1 id := by rw [hT]; exact hsz
  rw [e]
  exact a1
end GM
