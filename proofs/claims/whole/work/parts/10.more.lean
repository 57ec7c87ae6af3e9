/-- a boolean answer -/
def zr (x : Int32) (σ : HS) : Option (Int32 × HS) := if x = 0 ∨ x = 1 then some (x, σ) else none
theorem zr_of {x : Int32} {σ : HS} {fo : Option (Int32 × HS)} (h : zr x σ = fo) (hf : fo ≠ none) : narrow .boolean (.int x) = .int x ∧ some (x, σ) = fo := by
  unfold zr at h
  by_cases c : x = 0 ∨ x = 1
  · rw [if_pos c] at h
    refine ⟨?_, h⟩
    rcases c with rfl | rfl <;> rfl
  · rw [if_neg c] at h
    exact absurd h.symm hf
theorem nn_of {α : Type} {o : Option α} {q : α} (h : o = some q) : o ≠ none := by rw [h]; exact Option.some_ne_none _
/-- how often a loop may go round -/
def FU : Nat := 5000
/-- how deep a method may call itself -/
def DEP : Nat := 12
theorem cr0 : cr 0 RX0 TX0 10 := ⟨rfl, rfl, by decide⟩
theorem cr1 : cr 1 RX1 TX1 6 := ⟨rfl, rfl, by decide⟩
theorem cr2 : cr 2 RX2 TX2 6 := ⟨rfl, rfl, by decide⟩
theorem cr3 : cr 3 RX3 TX3 2 := ⟨rfl, rfl, by decide⟩
theorem cr4 : cr 4 RX4 TX4 9 := ⟨rfl, rfl, by decide⟩
theorem cr5 : cr 5 RX5 TX5 3 := ⟨rfl, rfl, by decide⟩
theorem cr6 : cr 6 RX6 TX6 3 := ⟨rfl, rfl, by decide⟩
theorem cr7 : cr 7 RX7 TX7 6 := ⟨rfl, rfl, by decide⟩
theorem cr8 : cr 8 RX8 TX8 5 := ⟨rfl, rfl, by decide⟩
theorem cr9 : cr 9 RX9 TX9 5 := ⟨rfl, rfl, by decide⟩
theorem cr10 : cr 10 RX10 TX10 5 := ⟨rfl, rfl, by decide⟩
theorem cr11 : cr 11 RX11 TX11 19 := ⟨rfl, rfl, by decide⟩
theorem cr12 : cr 12 RX12 TX12 39 := ⟨rfl, rfl, by decide⟩
theorem sw_out {x : Int32} (lo hi : Nat) (h0 : lo ≤ hi) (h1 : hi < 2 ^ 31) (h : ∀ k : Nat, lo ≤ k → k ≤ hi → ¬ x = Int32.ofNat k) : x.toInt < (lo : Int) ∨ (hi : Int) < x.toInt := by
  rcases Int.lt_or_le x.toInt lo with q | q
  · exact Or.inl q
  · rcases Int.lt_or_le (hi : Int) x.toInt with q2 | q2
    · exact Or.inr q2
    · exfalso
      refine h x.toInt.toNat (by omega) (by omega) ?_
      apply Int32.toInt_inj.mp
      have : (nI x.toInt.toNat).toInt = (x.toInt.toNat : Int) := nI_toInt (by omega)
      show x.toInt = (nI x.toInt.toNat).toInt
      rw [this]
      omega
section GS
variable {E : ET} {F : FT} {nL : Nat} {cc : ByteArray} {own : String} {Ts : List Cond} {pc : Nat} {lv : List (Nat × Value)} {st : List Value} {σ : HS}
theorem g_tin (hC : Cx E F nL cc own Ts) {dflt lo hi : Int} {offs : Array Int} {len : Nat} {x : Int32} {off : Int} {tgt : Nat} (hd : decode cc pc = .ok (.tableswitch dflt lo hi offs, len)) (h1 : ¬ x.toInt < lo) (h2 : ¬ hi < x.toInt) (ho : offs[(x.toInt - lo).toNat]? = some off) (ht : (pc : Int) + off = (tgt : Int)) (kk : G E F tgt lv st σ) : G E F pc lv (.int x :: st) σ := fun hwf H locs ls hP hS hl => lv_tableIn hC.1 hC.2.1 hd h1 h2 ho ht (kk hwf H locs ls hP hS hl)
theorem g_tout (hC : Cx E F nL cc own Ts) {dflt lo hi : Int} {offs : Array Int} {len : Nat} {x : Int32} {tgt : Nat} (hd : decode cc pc = .ok (.tableswitch dflt lo hi offs, len)) (h : x.toInt < lo ∨ hi < x.toInt) (ht : (pc : Int) + dflt = (tgt : Int)) (kk : G E F tgt lv st σ) : G E F pc lv (.int x :: st) σ := fun hwf H locs ls hP hS hl => lv_tableOut hC.1 hC.2.1 hd h ht (kk hwf H locs ls hP hS hl)
end GS
theorem ife_p {α : Type} {c : Prop} [Decidable c] {a b fo : Option α} (hc : c) (h : (if c then a else b) = fo) : a = fo := by rw [if_pos hc] at h; exact h
theorem ife_n {α : Type} {c : Prop} [Decidable c] {a b fo : Option α} (hc : ¬ c) (h : (if c then a else b) = fo) : b = fo := by rw [if_neg hc] at h; exact h
