/-! a run that ends well -/
def Ok {α : Type} (X : Option α) (P : α → Prop) : Prop := ∃ r, X = some r ∧ P r
section
variable {α β : Type} {P : α → Prop}
theorem ok_some {r : α} (h : P r) : Ok (some r) P := ⟨r, rfl, h⟩
theorem ok_gI {a b : Int} {c : Prop} [Decidable c] {X Y : Option α} (h1 : -2147483648 ≤ a) (h2 : a < 2147483648) (h3 : -2147483648 ≤ b) (h4 : b < 2147483648) (hx : c → Ok X P) (hy : ¬ c → Ok Y P) : Ok (gI a b c X Y) P := by
  unfold gI
  rw [if_pos ⟨⟨h1, h2⟩, h3, h4⟩]
  by_cases q : c
  · rw [if_pos q]; exact hx q
  · rw [if_neg q]; exact hy q
theorem ok_gJ {a b : Int} {c : Prop} [Decidable c] {X Y : Option α} (h1 : -9223372036854775808 ≤ a) (h2 : a < 9223372036854775808) (h3 : -9223372036854775808 ≤ b) (h4 : b < 9223372036854775808) (hx : c → Ok X P) (hy : ¬ c → Ok Y P) : Ok (gJ a b c X Y) P := by
  unfold gJ
  rw [if_pos ⟨⟨h1, h2⟩, h3, h4⟩]
  by_cases q : c
  · rw [if_pos q]; exact hx q
  · rw [if_neg q]; exact hy q
theorem ok_gk {i : Int} {n : Nat} {X : Option α} (h1 : 0 ≤ i) (h2 : i < n) (h : Ok X P) : Ok (gk i n X) P := by unfold gk; rw [if_pos ⟨h1, h2⟩]; exact h
theorem ok_gd {a b : Int} {X : Option α} (h1 : -2147483648 ≤ a) (h2 : a < 2147483648) (h3 : 0 < b) (h4 : b < 2147483648) (h : Ok X P) : Ok (gd a b X) P := by unfold gd; rw [if_pos ⟨⟨h1, h2⟩, ⟨by omega, h4⟩, h3⟩]; exact h
theorem ok_gdJ {a b : Int} {X : Option α} (h1 : -9223372036854775808 ≤ a) (h2 : a < 9223372036854775808) (h3 : 0 < b) (h4 : b < 9223372036854775808) (h : Ok X P) : Ok (gdJ a b X) P := by unfold gdJ; rw [if_pos ⟨⟨h1, h2⟩, ⟨by omega, h4⟩, h3⟩]; exact h
theorem ok_gw {a : Int} {X : Option α} (h1 : -2147483648 ≤ a) (h2 : a < 2147483648) (h : Ok X P) : Ok (gw a X) P := by unfold gw; rw [if_pos ⟨h1, h2⟩]; exact h
theorem ok_gz {a : Int} {X : Option α} (h1 : a = 0 ∨ a = 1) (h : Ok X P) : Ok (gz a X) P := by unfold gz; rw [if_pos h1]; exact h
theorem ok_rk {r : Option Nat} {a k : Nat} {X : Nat → Option α} (e : r = some a) (hk : kd a = k) (h : Ok (X a) P) : Ok (rk r k X) P := by
  unfold rk; rw [e]; show Ok (if kd a = k then X a else none) P; rw [if_pos hk]; exact h
theorem ok_bind {A : Option β} {Q : β → Prop} {X : β → Option α} (h : Ok A Q) (k : ∀ r, Q r → Ok (X r) P) : Ok (A.bind X) P := by
  obtain ⟨r, e, q⟩ := h
  rw [e]; exact k r q
theorem ok_beq {A : Option β} {r : β} {X : β → Option α} (h : A = some r) (k : Ok (X r) P) : Ok (A.bind X) P := by rw [h]; exact k
theorem ok_eq {X : Option α} {r : α} (h : Ok X (fun x => x = r)) : X = some r := by obtain ⟨x, e, q⟩ := h; rw [e, q]
theorem ok_of {X : Option α} {r : α} (h : X = some r) : Ok X (fun x => x = r) := ⟨r, h, rfl⟩
theorem ok_mono {X : Option α} {Q : α → Prop} (h : Ok X Q) (k : ∀ r, Q r → P r) : Ok X P := by obtain ⟨x, e, q⟩ := h; exact ⟨x, e, k x q⟩
end
theorem zI_1 (ζ : ZS) (a k c j : Nat) (v : Int) : (zI ζ a k v).1 c j = if c = a ∧ j = k then v else ζ.1 c j := u2_e ζ.1 a k c j v
theorem zI_2 (ζ : ZS) (a k : Nat) (v : Int) : (zI ζ a k v).2 = ζ.2 := rfl
theorem zJ_1 (ζ : ZS) (a k : Nat) (v : Int) : (zJ ζ a k v).1 = ζ.1 := rfl
theorem zJ_2 (ζ : ZS) (a k c j : Nat) (v : Int) : (zJ ζ a k v).2.1 c j = if c = a ∧ j = k then v else ζ.2.1 c j := u2_e ζ.2.1 a k c j v
theorem zJ_3 (ζ : ZS) (a k : Nat) (v : Int) : (zJ ζ a k v).2.2 = ζ.2.2 := rfl
theorem zR_1 (ζ : ZS) (a k : Nat) (v : Option Nat) : (zR ζ a k v).1 = ζ.1 := rfl
theorem zR_2 (ζ : ZS) (a k : Nat) (v : Option Nat) : (zR ζ a k v).2.1 = ζ.2.1 := rfl
theorem zR_3 (ζ : ZS) (a k c j : Nat) (v : Option Nat) : (zR ζ a k v).2.2 c j = if c = a ∧ j = k then v else ζ.2.2 c j := u2_e ζ.2.2 a k c j v
/-- nothing but W has changed -/
def Fx (W : Nat → Nat → Prop) (ζ ζ' : ZS) : Prop := (∀ c k, ¬ W c k → ζ'.1 c k = ζ.1 c k ∧ ζ'.2.1 c k = ζ.2.1 c k) ∧ ζ'.2.2 = ζ.2.2
theorem fx_refl (W : Nat → Nat → Prop) (ζ : ZS) : Fx W ζ ζ := ⟨fun _ _ _ => ⟨rfl, rfl⟩, rfl⟩
theorem fx_trans {W : Nat → Nat → Prop} {a b c : ZS} (h : Fx W a b) (g : Fx W b c) : Fx W a c := ⟨fun x k hw => ⟨((g.1 x k hw).1).trans (h.1 x k hw).1, ((g.1 x k hw).2).trans (h.1 x k hw).2⟩, g.2.trans h.2⟩
theorem fx_mono {W U : Nat → Nat → Prop} {a b : ZS} (h : Fx W a b) (hu : ∀ c k, W c k → U c k) : Fx U a b := ⟨fun x k hw => h.1 x k (fun q => hw (hu x k q)), h.2⟩
theorem fx_I {W : Nat → Nat → Prop} {ζ ζ' : ZS} {a k : Nat} {v : Int} (h : Fx W ζ ζ') (hw : W a k) : Fx W ζ (zI ζ' a k v) :=
  ⟨fun x j hx => ⟨by rw [zI_1, if_neg (fun q => hx (by rw [q.1, q.2]; exact hw))]; exact (h.1 x j hx).1, (h.1 x j hx).2⟩, h.2⟩
theorem fx_J {W : Nat → Nat → Prop} {ζ ζ' : ZS} {a k : Nat} {v : Int} (h : Fx W ζ ζ') (hw : W a k) : Fx W ζ (zJ ζ' a k v) :=
  ⟨fun x j hx => ⟨(h.1 x j hx).1, by rw [zJ_2, if_neg (fun q => hx (by rw [q.1, q.2]; exact hw))]; exact (h.1 x j hx).2⟩, h.2⟩
theorem FU_e : FU = 5000 := rfl
theorem DEP_e : DEP = 12 := rfl
