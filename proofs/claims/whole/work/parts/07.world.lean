/-- the heap's contents: int-like slots, long slots, reference slots (cell numbers), by cell and place -/
abbrev HS : Type := (Nat → Nat → Int32) × (Nat → Nat → Int64) × (Nat → Nat → Option Nat)
def u2 {α : Type} (f : Nat → Nat → α) (a k : Nat) (v : α) : Nat → Nat → α := fun x => if x = a then (fun y => if y = k then v else f a y) else f x
def sI (σ : HS) (a k : Nat) (v : Int32) : HS := (u2 σ.1 a k v, σ.2.1, σ.2.2)
def sJ (σ : HS) (a k : Nat) (v : Int64) : HS := (σ.1, u2 σ.2.1 a k v, σ.2.2)
def sR (σ : HS) (a k : Nat) (v : Option Nat) : HS := (σ.1, σ.2.1, u2 σ.2.2 a k v)
/-- what is the same in all calls: launch, the classes' numbers, the cells' addresses, the array classes, the cells that there are -/
abbrev ET : Type := Launch × va_G × (Nat → Nat) × (Nat → ClassId) × List Nat
def AL (E : ET) (a : Nat) : Prop := a ∈ E.2.2.2.2
def fv (E : ET) (σ : HS) (a k : Nat) (ty : FieldType) : Value := match ty with
  | .long => .long (σ.2.1 a k)
  | .object _ => va_rf ((σ.2.2 a k).map E.2.2.1)
  | .array _ => va_rf ((σ.2.2 a k).map E.2.2.1)
  | _ => .int (σ.1 a k)
def isI (ty : FieldType) : Bool := match ty with
  | .int => true
  | .boolean => true
  | _ => false
def isR (ty : FieldType) : Bool := match ty with
  | .object _ => true
  | .array _ => true
  | _ => false
def fl (E : ET) (σ : HS) (a ci : Nat) : List Value := (List.range (nf ci)).map (fun k => fv E σ a k (ft ci k))
def ce (E : ET) (σ : HS) (a : Nat) : va_E :=
  if kd a < 13 then .inr (kd a, fl E σ a (kd a))
  else if kd a = 15 then .inl (E.2.2.2.1 15, ln a, .inr (.inl (σ.2.1 a)))
  else if kd a = 17 ∨ kd a = 18 then .inl (E.2.2.2.1 (kd a), ln a, .inr (.inr (.inr (.inr (fun i => (σ.2.2 a i).map E.2.2.1)))))
  else .inl (E.2.2.2.1 (kd a), ln a, .inl (σ.1 a))
def wl (E : ET) (σ : HS) : va_W := E.2.2.2.2.map (fun a => (E.2.2.1 a, ce E σ a))
def aS (E : ET) : Nat → Prop := fun q => ∃ k, AL E k ∧ q = E.2.2.1 k
def tyL (E : ET) : List (ClassId × FieldType) := [(E.2.2.2.1 13, .byte), (E.2.2.2.1 14, .int), (E.2.2.2.1 15, .long), (E.2.2.2.1 16, .boolean), (E.2.2.2.1 17, .object "EveryMeasure$Cone"), (E.2.2.2.1 18, .array .int)]
/-- references lead to cells that there are -/
def wf (E : ET) (σ : HS) : Prop := ∀ a k b, AL E a → σ.2.2 a k = some b → AL E b
/-- the world of a state -/
def Wd (E : ET) (σ : HS) (U : State) : Prop := va_P E.2.1 vwCl (wl E σ) U.heap ∧ va_K E.2.1 vwCl (tyL E) U ∧ wf E σ
def EO (E : ET) : Prop := E.2.2.2.2.Nodup ∧ ∀ i j, AL E i → AL E j → E.2.2.1 i = E.2.2.1 j → i = j
theorem u2_a {α : Type} (f : Nat → Nat → α) (a k : Nat) (v : α) : u2 f a k v a = fun y => if y = k then v else f a y := if_pos rfl
theorem u2_n {α : Type} {f : Nat → Nat → α} {a k x : Nat} {v : α} (h : x ≠ a) : u2 f a k v x = f x := if_neg h
theorem u2_e {α : Type} (f : Nat → Nat → α) (a k x y : Nat) (v : α) : u2 f a k v x y = if x = a ∧ y = k then v else f x y := by
  unfold u2
  by_cases h : x = a
  · subst h; by_cases h2 : y = k <;> simp [h2]
  · simp [h]
theorem wl_at {E : ET} (σ : HS) {a q : Nat} (h : E.2.2.2.2[q]? = some a) : (wl E σ)[q]? = some (E.2.2.1 a, ce E σ a) := by
  simp only [wl, List.getElem?_map, h, Option.map_some]
theorem al_at {E : ET} {a : Nat} (h : AL E a) : ∃ q : Nat, E.2.2.2.2[q]? = some a := List.getElem?_of_mem h
theorem nd_at {l : List Nat} (hn : l.Nodup) {i j a : Nat} (hi : l[i]? = some a) (hj : l[j]? = some a) : i = j := by
  exact (List.getElem?_inj (List.getElem?_eq_some_iff.mp hi).1 hn).mp (hi.trans hj.symm)
theorem wl_set {E : ET} (hE : EO E) {σ σ' : HS} {a q : Nat} {e : va_E} (hq : E.2.2.2.2[q]? = some a) (h1 : ce E σ' a = e) (h2 : ∀ x, x ≠ a → ce E σ' x = ce E σ x) : (wl E σ).set q (E.2.2.1 a, e) = wl E σ' := by
  apply List.ext_getElem?
  intro i
  rw [List.getElem?_set]
  by_cases hi : q = i
  · subst hi
    rw [if_pos rfl, wl_at σ' hq, h1]
    have hl := (List.getElem?_eq_some_iff.mp hq).1
    simp [wl, hl]
  · rw [if_neg hi]
    simp only [wl, List.getElem?_map]
    cases hx : E.2.2.2.2[i]? with
    | none => rfl
    | some x =>
      have hne : x ≠ a := fun e => hi (nd_at hE.1 hq (by rw [← e]; exact hx))
      simp only [Option.map_some]
      rw [h2 x hne]
theorem wl_D {E : ET} (hE : EO E) (σ : HS) : va_D (aS E) (wl E σ) := by
  have hg : ∀ (i : Nat) (p : Nat × va_E), (wl E σ)[i]? = some p → ∃ a, E.2.2.2.2[i]? = some a ∧ p.1 = E.2.2.1 a := by
    intro i p h
    simp only [wl, List.getElem?_map] at h
    cases hx : E.2.2.2.2[i]? with
    | none => rw [hx] at h; cases h
    | some a => rw [hx] at h; cases h; exact ⟨a, rfl, rfl⟩
  refine ⟨fun i j p q h1 h2 e => ?_, fun k q h => ?_⟩
  · obtain ⟨a, a1, a2⟩ := hg i p h1
    obtain ⟨b, b1, b2⟩ := hg j q h2
    have hab : a = b := hE.2 a b (List.mem_of_getElem? a1) (List.mem_of_getElem? b1) (by rw [← a2, ← b2]; exact e)
    exact nd_at hE.1 a1 (by rw [hab]; exact b1)
  · obtain ⟨a, a1, a2⟩ := hg k q h
    exact ⟨a, List.mem_of_getElem? a1, a2⟩
theorem ce_o {E : ET} {σ : HS} {a ci : Nat} (h : kd a = ci) (hc : ci < 13) : ce E σ a = .inr (ci, fl E σ a ci) := by
  unfold ce; rw [h, if_pos hc]
theorem ce_J {E : ET} {σ : HS} {a : Nat} (h : kd a = 15) : ce E σ a = .inl (E.2.2.2.1 15, ln a, .inr (.inl (σ.2.1 a))) := by
  unfold ce; rw [h]; rfl
theorem ce_R {E : ET} {σ : HS} {a ci : Nat} (h : kd a = ci) (hc : ci = 17 ∨ ci = 18) : ce E σ a = .inl (E.2.2.2.1 ci, ln a, .inr (.inr (.inr (.inr (fun i => (σ.2.2 a i).map E.2.2.1))))) := by
  unfold ce; rw [h]; rcases hc with rfl | rfl <;> rfl
theorem ce_I {E : ET} {σ : HS} {a ci : Nat} (h : kd a = ci) (hc : ci = 13 ∨ ci = 14 ∨ ci = 16) : ce E σ a = .inl (E.2.2.2.1 ci, ln a, .inl (σ.1 a)) := by
  unfold ce; rw [h]; rcases hc with rfl | rfl | rfl <;> rfl
theorem fl_get (E : ET) (σ : HS) (a ci : Nat) {k : Nat} (h : k < nf ci) : (fl E σ a ci)[k]? = some (fv E σ a k (ft ci k)) := by
  simp [fl, h]
theorem fl_len (E : ET) (σ : HS) (a ci : Nat) : (fl E σ a ci).length = nf ci := by simp [fl]
theorem fl_set {E : ET} {σ σ' : HS} {a ci k : Nat} {v : Value} (hk : k < nf ci) (h1 : fv E σ' a k (ft ci k) = v) (h2 : ∀ j, j ≠ k → fv E σ' a j (ft ci j) = fv E σ a j (ft ci j)) : (fl E σ a ci).set k v = fl E σ' a ci := by
  apply List.ext_getElem?
  intro i
  rw [List.getElem?_set]
  by_cases hi : k = i
  · subst hi
    rw [if_pos rfl, fl_get E σ' a ci hk, h1]
    simp [fl, hk]
  · rw [if_neg hi]
    simp only [fl, List.getElem?_map]
    by_cases hl : i < nf ci
    · simp only [List.getElem?_range hl, Option.map_some]
      rw [h2 i (fun q => hi q.symm)]
    · rw [List.getElem?_eq_none (by simpa using hl)]; rfl
theorem fv_I {E : ET} {σ : HS} {a k : Nat} {ty : FieldType} (h : isI ty = true) : fv E σ a k ty = .int (σ.1 a k) := by
  cases ty <;> first | rfl | (simp [isI] at h)
theorem fv_R {E : ET} {σ : HS} {a k : Nat} {ty : FieldType} (h : isR ty = true) : fv E σ a k ty = va_rf ((σ.2.2 a k).map E.2.2.1) := by
  cases ty <;> first | rfl | (simp [isR] at h)
theorem fv_nI {E : ET} {σ : HS} {a b k j : Nat} {v : Int32} (h : b ≠ a ∨ j ≠ k) (ty : FieldType) : fv E (sI σ a k v) b j ty = fv E σ b j ty := by
  have h1 : (sI σ a k v).1 b j = σ.1 b j := by
    show u2 σ.1 a k v b j = _
    rw [u2_e, if_neg (fun q => by rcases h with h | h; exact h q.1; exact h q.2)]
  cases ty <;> first | rfl | (show Value.int _ = Value.int _; rw [h1])
theorem fv_nJ {E : ET} {σ : HS} {a b k j : Nat} {v : Int64} (h : b ≠ a ∨ j ≠ k) (ty : FieldType) : fv E (sJ σ a k v) b j ty = fv E σ b j ty := by
  have h1 : (sJ σ a k v).2.1 b j = σ.2.1 b j := by
    show u2 σ.2.1 a k v b j = _
    rw [u2_e, if_neg (fun q => by rcases h with h | h; exact h q.1; exact h q.2)]
  cases ty <;> first | rfl | (show Value.long _ = Value.long _; rw [h1])
theorem fv_nR {E : ET} {σ : HS} {a b k j : Nat} {v : Option Nat} (h : b ≠ a ∨ j ≠ k) (ty : FieldType) : fv E (sR σ a k v) b j ty = fv E σ b j ty := by
  have h1 : (sR σ a k v).2.2 b j = σ.2.2 b j := by
    show u2 σ.2.2 a k v b j = _
    rw [u2_e, if_neg (fun q => by rcases h with h | h; exact h q.1; exact h q.2)]
  cases ty <;> first | rfl | (show va_rf _ = va_rf _; rw [h1])
theorem ce_nI {E : ET} {σ : HS} {a k : Nat} {v : Int32} (x : Nat) (h : x ≠ a) : ce E (sI σ a k v) x = ce E σ x := by
  have h0 : (sI σ a k v).1 x = σ.1 x := u2_n h
  have h1 : fl E (sI σ a k v) x (kd x) = fl E σ x (kd x) := List.map_congr_left (fun j _ => fv_nI (Or.inl h) _)
  unfold ce
  rw [h0, h1]; rfl
theorem ce_nJ {E : ET} {σ : HS} {a k : Nat} {v : Int64} (x : Nat) (h : x ≠ a) : ce E (sJ σ a k v) x = ce E σ x := by
  have h0 : (sJ σ a k v).2.1 x = σ.2.1 x := u2_n h
  have h1 : fl E (sJ σ a k v) x (kd x) = fl E σ x (kd x) := List.map_congr_left (fun j _ => fv_nJ (Or.inl h) _)
  unfold ce
  rw [h0, h1]; rfl
theorem ce_nR {E : ET} {σ : HS} {a k : Nat} {v : Option Nat} (x : Nat) (h : x ≠ a) : ce E (sR σ a k v) x = ce E σ x := by
  have h0 : (sR σ a k v).2.2 x = σ.2.2 x := u2_n h
  have h1 : fl E (sR σ a k v) x (kd x) = fl E σ x (kd x) := List.map_congr_left (fun j _ => fv_nR (Or.inl h) _)
  unfold ce
  rw [h0, h1]; rfl
