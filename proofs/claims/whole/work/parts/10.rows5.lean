/-- the ids n, n + 1 .. of k cells, made in this order -/
def rg (n k : Nat) : List Nat := (List.range k).map (fun i => n + i)
def eR (E : ET) (n k : Nat) : ET := eA E (rg n k)
theorem rg_mem {n k a : Nat} : a ∈ rg n k ↔ n ≤ a ∧ a < n + k := by
  unfold rg
  rw [List.mem_map]
  constructor
  · rintro ⟨i, hi, rfl⟩; have := List.mem_range.mp hi; omega
  · intro h; exact ⟨a - n, List.mem_range.mpr (by omega), by omega⟩
theorem rg_s (n k : Nat) : rg n (k + 1) = rg n k ++ [n + k] := by
  unfold rg; rw [List.range_succ, List.map_append]; rfl
theorem rg_a (n k : Nat) : ∀ m, rg n (k + m) = rg n k ++ rg (n + k) m
  | 0 => by show rg n k = rg n k ++ []; rw [List.append_nil]
  | m + 1 => by
    rw [show k + (m + 1) = (k + m) + 1 from rfl, rg_s, rg_a n k m, rg_s, List.append_assoc]
    rw [show n + (k + m) = n + k + m by omega]
theorem rg_nodup (n k : Nat) : (rg n k).Nodup := by
  unfold rg
  apply List.Pairwise.map (R := fun a b => a ≠ b) (S := fun a b => a ≠ b)
  · intro a b h e; exact h (by omega)
  · exact List.nodup_range
theorem idl_rg (id N : Nat) : idl id N = rg id (N + 1) := by
  rw [show N + 1 = 1 + N by omega, rg_a]
  rfl
theorem eR_0 (E : ET) (n : Nat) : eR E n 0 = E := by
  show (E.1, E.2.1, E.2.2.1, E.2.2.2.1, E.2.2.2.2 ++ []) = E
  rw [List.append_nil]
theorem eR_a (E : ET) (n k m : Nat) : eA (eR E n k) (rg (n + k) m) = eR E n (k + m) := by
  show (E.1, E.2.1, E.2.2.1, E.2.2.2.1, (E.2.2.2.2 ++ rg n k) ++ rg (n + k) m) = (E.1, E.2.1, E.2.2.1, E.2.2.2.1, E.2.2.2.2 ++ rg n (k + m))
  rw [rg_a, List.append_assoc]
theorem eR_s (E : ET) (n k : Nat) : eA (eR E n k) [n + k] = eR E n (k + 1) := eR_a E n k 1
theorem fA_0 (F : FT) : fA F 0 0 = F := rfl
theorem fA_a (F : FT) (a b c d : Nat) : fA (fA F a b) c d = fA F (a + c) (b + d) := by
  unfold fA
  simp only [Nat.add_assoc]
/-- the cells n .. b - 1 are still to be made, in this order, from the heap's end on -/
def BB (E : ET) (F : FT) (n b : Nat) : Prop := (∀ j, n ≤ j → j < b → ¬ AL E j) ∧ (∀ j, n ≤ j → j < b → E.2.2.1 j + n = E.2.2.1 n + j) ∧ (∀ i j, E.2.2.1 i = E.2.2.1 j → i = j) ∧ F.1.2.2.2.1.heap.size = E.2.2.1 n ∧ F.1.2.2.2.2.2.2.1 = 0 ∧ F.1.2.2.2.2.2.2.2 = 0 ∧ (∀ q, E.2.2.1 n ≤ q → F.1.2.2.2.2.2.1 q)
theorem EO_R {E : ET} {F : FT} {n b k : Nat} (hE : EO E) (hB : BB E F n b) (hk : n + k ≤ b) : EO (eR E n k) := by
  refine ⟨?_, fun i j _ _ e => hB.2.2.1 i j e⟩
  show (E.2.2.2.2 ++ rg n k).Nodup
  rw [List.nodup_append]
  refine ⟨hE.1, rg_nodup n k, fun a ha c hc e => ?_⟩
  have := rg_mem.mp hc
  exact hB.1 c this.1 (by omega) (by rw [← e]; exact ha)
theorem al_R {E : ET} {n k a : Nat} : AL (eR E n k) a ↔ AL E a ∨ (n ≤ a ∧ a < n + k) := by
  unfold eR; rw [al_eA, rg_mem]
theorem cx_R {E : ET} {F : FT} {nL : Nat} {cc : ByteArray} {own : String} {Ts : List Cond} {n b k s : Nat} (hC : Cx E F nL cc own Ts) (hB : BB E F n b) (hk : n + k ≤ b) (h1 : k ≤ F.1.2.2.1.cells) (h2 : s ≤ F.1.2.2.1.slots) : Cx (eR E n k) (fA F k s) nL cc own Ts :=
  cx_eM hC (EO_R hC.2.2.2.2.2.2.1 hB hk) (fun a ha => hB.2.2.2.2.2.2 _ (by
    have h := rg_mem.mp ha
    have := hB.2.1 a h.1 (by omega)
    omega)) (by rw [hB.2.2.2.2.1]; omega) (by rw [hB.2.2.2.2.2.1]; omega)
theorem sz_R {E : ET} {F : FT} {n b k s : Nat} (hB : BB E F n b) (hk : n + k < b) : SZ (eR E n k) (fA F k s) (n + k) := by
  have h3 : E.2.2.1 (n + k) = E.2.2.1 n + k := by have := hB.2.1 (n + k) (by omega) hk; omega
  have h4 := hB.2.2.2.1
  have h5 := hB.2.2.2.2.1
  refine ⟨?_, ?_⟩
  · show E.2.2.1 (n + k) = F.1.2.2.2.1.heap.size + (F.1.2.2.2.2.2.2.1 + k)
    omega
  · show F.1.2.2.2.2.2.2.1 + k = 0 ∨ _
    cases k with
    | zero => left; omega
    | succ k =>
      right
      refine ⟨n + k, al_R.mpr (Or.inr (by omega)), ?_⟩
      show E.2.2.1 (n + k) + 1 = F.1.2.2.2.1.heap.size + (F.1.2.2.2.2.2.2.1 + (k + 1))
      have := hB.2.1 (n + k) (by omega) (by omega)
      omega
theorem fr_R {E : ET} {F : FT} {n b k : Nat} (hB : BB E F n b) (j : Nat) (h1 : n + k ≤ j) (h2 : j < b) : ¬ AL (eR E n k) j := fun h => by
  rcases al_R.mp h with h | h
  · exact hB.1 j (by omega) h2 h
  · omega
section GX
variable {E : ET} {F : FT} {nL : Nat} {cc : ByteArray} {own : String} {Ts : List Cond} {pc n b k s : Nat} {lv : List (Nat × Value)} {st : List Value} {σ : HS}
theorem hA_R (hB : BB E F n b) (k s : Nat) : ∀ q, (fA F k s).1.2.2.2.1.heap.size ≤ q → (fA F k s).1.2.2.2.2.2.1 q := fun q h => hB.2.2.2.2.2.2 q (by have h : F.1.2.2.2.1.heap.size ≤ q := h; rw [hB.2.2.2.1] at h; exact h)
theorem r_new (hC : Cx E F nL cc own Ts) (hB : BB E F n b) {R : Room} (hO : Ro F R) {C : String} {T : u_T} {N ci index : Nat} (id k' s' : Nat) (hid : n + k = id) (hk' : k + 1 = k') (hs' : s + N = s') (hr : cr ci C T N) (hin : ∀ w ∈ u_ws C T N, w ∈ Ts) (hty : ∀ k, k < N → parseFieldDescriptor (T k).2.2.1 = some (ft ci k)) (hok : ∀ k, k < N → isI (ft ci k) = true ∨ ft ci k = .long ∨ isR (ft ci k) = true) (hcl : Cond.classLink own index C ∈ Ts) (hinst : Cond.instantiable C N ∈ Ts) (hini : Cond.initialized C ∈ Ts) (hkd : kd id = ci) (hb : id < b) (h1 : k' ≤ R.cells) (h2 : s' ≤ R.slots) (hd : decode cc pc = .ok (.new index, 3)) (kk : G (eR E n k') (fA F k' s') (pc + 3) lv (.ref (E.2.2.1 id) :: st) (sN σ id)) : G (eR E n k) (fA F k s) pc lv st σ := by
  subst hid; subst hk'; subst hs'
  have hO1 : F.1.2.2.1 = R := hO
  have g1 : (fA F k s).1.2.2.2.2.2.2.1 + 1 ≤ (fA F k s).1.2.2.1.cells := by
    show F.1.2.2.2.2.2.2.1 + k + 1 ≤ F.1.2.2.1.cells
    rw [hB.2.2.2.2.1, hO1]; omega
  have g2 : (fA F k s).1.2.2.2.2.2.2.2 + N ≤ (fA F k s).1.2.2.1.slots := by
    show F.1.2.2.2.2.2.2.2 + s + N ≤ F.1.2.2.1.slots
    rw [hB.2.2.2.2.2.1, hO1]; omega
  refine g_new (cx_R hC hB (by omega) (by rw [hO1]; omega) (by rw [hO1]; omega)) hr hin hty hok hcl hinst hini hkd (fr_R hB _ (Nat.le_refl _) hb) (sz_R hB hb) (hA_R hB k s) g1 g2 hd (fun _ => ?_)
  rw [eR_s, fA_a]
  exact kk
theorem r_newa (hC : Cx E F nL cc own Ts) (hB : BB E F n b) {R : Room} (hO : Ro F R) {m : Int32} {N : Nat} (id k' s' : Nat) (hid : n + k = id) (hk' : k + 1 = k') (hs' : s + N = s') (h1 : k' ≤ R.cells) (h2 : s' ≤ R.slots) (hb : id < b) {len : Nat}
    (row : Cx (eR E n k) (fA F k s) nL cc own Ts → ¬ AL (eR E n k) id → SZ (eR E n k) (fA F k s) id → (∀ q, (fA F k s).1.2.2.2.1.heap.size ≤ q → (fA F k s).1.2.2.2.2.2.1 q) → (fA F k s).1.2.2.2.2.2.2.1 + 1 ≤ (fA F k s).1.2.2.1.cells → (fA F k s).1.2.2.2.2.2.2.2 + N ≤ (fA F k s).1.2.2.1.slots → (Cx (eA (eR E n k) [id]) (fA (fA F k s) 1 N) nL cc own Ts → G (eA (eR E n k) [id]) (fA (fA F k s) 1 N) (pc + len) lv (.ref (E.2.2.1 id) :: st) (sN σ id)) → G (eR E n k) (fA F k s) pc lv (.int m :: st) σ)
    (kk : G (eR E n k') (fA F k' s') (pc + len) lv (.ref (E.2.2.1 id) :: st) (sN σ id)) : G (eR E n k) (fA F k s) pc lv (.int m :: st) σ := by
  subst hid; subst hk'; subst hs'
  have hO1 : F.1.2.2.1 = R := hO
  have g1 : (fA F k s).1.2.2.2.2.2.2.1 + 1 ≤ (fA F k s).1.2.2.1.cells := by
    show F.1.2.2.2.2.2.2.1 + k + 1 ≤ F.1.2.2.1.cells
    rw [hB.2.2.2.2.1, hO1]; omega
  have g2 : (fA F k s).1.2.2.2.2.2.2.2 + N ≤ (fA F k s).1.2.2.1.slots := by
    show F.1.2.2.2.2.2.2.2 + s + N ≤ F.1.2.2.1.slots
    rw [hB.2.2.2.2.2.1, hO1]; omega
  refine row (cx_R hC hB (by omega) (by rw [hO1]; omega) (by rw [hO1]; omega)) (fr_R hB _ (Nat.le_refl _) hb) (sz_R hB hb) (hA_R hB k s) g1 g2 (fun _ => ?_)
  rw [eR_s, fA_a]
  exact kk
theorem r_mna (hC : Cx E F nL cc own Ts) (hB : BB E F n b) {R : Room} (hO : Ro F R) {index N : Nat} {m k4 : Int32} (id k' s' : Nat) (hid : n + k = id) (hk' : k + (1 + N) = k') (hs' : s + (N + N * 4) = s') (h1 : k' ≤ R.cells) (h2 : s' ≤ R.slots) (hb : id + N < b) (hk0 : kd id = 18) (hl0 : ln id = N) (hki : ∀ i, i < N → kd (id + 1 + i) = 14 ∧ ln (id + 1 + i) = 4) (hcl : Cond.classLink own index "[[I" ∈ Ts) (hov : (Cond.arrayOver (.array .int)).before F.2.1 F.1.2.2.2.1 = true) (harr : Cond.arrayClass .int ∈ Ts) (hn : ¬ m < 0) (hk : ¬ k4 < 0) (hN : m.toNatClampNeg = N) (hM : k4.toNatClampNeg = 4) (hbn : N * 4 ≤ 536870912) (hd : decode cc pc = .ok (.multianewarray index 2, 4))
    (kk : G (eR E n k') (fA F k' s') (pc + 4) lv (.ref (E.2.2.1 id) :: st) (sM σ id N)) : G (eR E n k) (fA F k s) pc lv (.int k4 :: .int m :: st) σ := by
  subst hid; subst hk'; subst hs'
  have hO1 : F.1.2.2.1 = R := hO
  have g1 : (fA F k s).1.2.2.2.2.2.2.1 + (1 + N) ≤ (fA F k s).1.2.2.1.cells := by
    show F.1.2.2.2.2.2.2.1 + k + (1 + N) ≤ F.1.2.2.1.cells
    rw [hB.2.2.2.2.1, hO1]; omega
  have g2 : (fA F k s).1.2.2.2.2.2.2.2 + (N + N * 4) ≤ (fA F k s).1.2.2.1.slots := by
    show F.1.2.2.2.2.2.2.2 + s + (N + N * 4) ≤ F.1.2.2.1.slots
    rw [hB.2.2.2.2.2.1, hO1]; omega
  refine g_mna (cx_R hC hB (by omega) (by rw [hO1]; omega) (by rw [hO1]; omega)) hk0 hl0 hki hcl hov harr hn hk hN hM hbn (fun a ha => fr_R hB a (idl_mem.mp ha).1 (by have := (idl_mem.mp ha).2; omega)) (fun a ha => by
    have h := idl_mem.mp ha
    have h3 := hB.2.1 a (by omega) (by omega)
    have h4 := hB.2.1 (n + k) (by omega) (by omega)
    show E.2.2.1 a + (n + k) = E.2.2.1 (n + k) + a
    omega) (sz_R hB (by omega)) (hA_R hB k s) g1 g2 hd (fun _ => ?_)
  rw [idl_rg, show N + 1 = 1 + N by omega, eR_a, fA_a]
  exact kk
end GX
