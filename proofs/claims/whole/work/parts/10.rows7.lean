theorem gi_I {c : Cond} (h5 : c ∈ GT) : GoodIn GT (c :: GT) := by
  intro w hw
  have hm : w ∈ GT := by
    rcases List.mem_cons.mp hw with rfl | h
    · exact h5
    · exact h
  exact ⟨hm, gt_ok w hm⟩
theorem cx_RO {E : ET} {F : FT} {nL : Nat} {cc : ByteArray} {own : String} {Ts : List Cond} {n b k s : Nat} {R : Room} (hC : Cx E F nL cc own Ts) (hB : BB E F n b) (hO : Ro F R) (hk : n + k ≤ b) (h1 : k ≤ R.cells) (h2 : s ≤ R.slots) : Cx (eR E n k) (fA F k s) nL cc own Ts := cx_R hC hB hk (by rw [show F.1.2.2.1 = R from hO]; exact h1) (by rw [show F.1.2.2.1 = R from hO]; exact h2)
theorem al_up {E : ET} {n k k' a : Nat} (h : AL (eR E n k) a) (hk : k ≤ k') : AL (eR E n k') a := al_R.mpr (by rcases al_R.mp h with h | h; exact Or.inl h; exact Or.inr ⟨h.1, by omega⟩)
section GB
variable {E : ET} {F : FT} {nL : Nat} {cc : ByteArray} {own : String} {Ts : List Cond} {pc : Nat} {lv : List (Nat × Value)} {st : List Value} {σ : HS}
theorem gb_icmp_ge_t (hC : Cx E F nL cc own Ts) {x y : Int32} {off : Int} {tgt : Nat} (hd : decode cc pc = .ok (.if_icmp .ge off, 3)) (ht : (pc : Int) + off = (tgt : Int)) (hc : y ≤ x) (kk : G E F tgt lv st σ) : G E F pc lv (.int y :: .int x :: st) σ := fun hwf H locs ls hP hS hl => lv_icmp_ge hC.1 hC.2.1 hd ht (fun _ => kk hwf H locs ls hP hS hl) (fun c => absurd hc c)
theorem gb_icmp_ge_f (hC : Cx E F nL cc own Ts) {x y : Int32} {off : Int} (hd : decode cc pc = .ok (.if_icmp .ge off, 3)) {tgt : Nat} (ht : (pc : Int) + off = (tgt : Int)) (hc : ¬ y ≤ x) (kk : G E F (pc + 3) lv st σ) : G E F pc lv (.int y :: .int x :: st) σ := fun hwf H locs ls hP hS hl => lv_icmp_ge hC.1 hC.2.1 hd ht (fun c => absurd c hc) (fun _ => kk hwf H locs ls hP hS hl)
end GB
