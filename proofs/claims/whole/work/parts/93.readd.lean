/-! what is read is as it may be; places go on -/
section
variable {s : Nat → Int} {N p : Nat} {k : Int} {D : Nat → Nat → Int}
theorem tnF_0 {lo hi : Int} (h : tnF s N lo hi p = 0) : tK s N p = 2 ∧ lo ≤ tV s N p ∧ tV s N p ≤ hi := by
  unfold tnF at h
  split at h
  · omega
  · split at h
    · omega
    · omega
theorem toF_0 {o hi : Int} (h : toF s N o hi p = 0) : tK s N p = 2 ∧ 0 ≤ tV s N p ∧ tV s N p ≤ hi ∧ tV s N p ≠ o := by
  unfold toF at h
  split at h
  · omega
  case isFalse c => have q := tnF_0 h; exact ⟨q.1, q.2.1, q.2.2, fun e => c ⟨q.1, e⟩⟩
theorem dok_upM {c m : Nat} {v : Int} (h : Dok k D) (h1 : 6 ≤ c) (h2 : c ≤ 8) (hm : m < 4) (hk : (m : Int) < k) (h6 : c = 6 → v = 0 ∨ v = 1) (h7 : c ≠ 6 → -1 ≤ v ∧ v ≤ 100) : Dok k (up D c m v) := by
  refine ⟨fun j hj => ?_, ?_, fun i hi => ?_⟩
  · have q := h.1 j hj
    rw [up_e, up_e, up_e]
    by_cases c6 : 6 = c ∧ j = m
    · rw [if_pos c6, if_neg (by omega), if_neg (by omega)]
      exact ⟨h6 (by omega), q.2.1, q.2.2.1, fun g => by omega⟩
    · rw [if_neg c6]
      by_cases c7 : 7 = c ∧ j = m
      · rw [if_pos c7, if_neg (by omega)]
        exact ⟨q.1, h7 (by omega), q.2.2.1, fun g => by omega⟩
      · rw [if_neg c7]
        by_cases c8 : 8 = c ∧ j = m
        · rw [if_pos c8]
          exact ⟨q.1, q.2.1, h7 (by omega), fun g => by omega⟩
        · rw [if_neg c8]; exact q
  · rw [up_e, if_neg (by omega)]; exact h.2.1
  · rw [up_e, if_neg (by omega)] at hi
    rw [up_e, if_neg (by omega), up_e, if_neg (by omega), up_e, if_neg (by omega), up_e, if_neg (by omega), up_e, if_neg (by omega), up_e, if_neg (by omega)]
    exact h.2.2 i hi
theorem dok_say {g i c d x y : Int} (h : Dok k D) (hn : D 9 0 < 12) (hg : 0 ≤ g ∧ g ≤ 7) (hi : 3 ≤ i ∧ i ≤ 8) (hx : 0 ≤ x ∧ x ≤ 7) (h6 : i = 6 ∨ i = 7 → 0 ≤ c ∧ c ≤ 100) (h5 : i = 5 → 1 ≤ c ∧ c ≤ 100 ∧ 1 ≤ d ∧ d ≤ 100) (hy : i ≠ 6 ∧ i ≠ 7 → 0 ≤ y ∧ y ≤ 7 ∧ x ≠ y) (h8 : i ≠ 8 → x < k ∧ (i ≠ 6 ∧ i ≠ 7 → y < k)) : Dok k (sayD D g i c d x y) := by
  have q9 := h.2.1
  refine ⟨fun m hm => ?_, by rw [sd_9]; omega, fun j hj => ?_⟩
  · rw [sd_o (by omega) (by omega), sd_o (by omega) (by omega), sd_o (by omega) (by omega)]; exact h.1 m hm
  · rw [sd_9] at hj
    by_cases e : (D 9 0).toNat = j
    · obtain ⟨a1, a2, a3, a4, a5, a6⟩ := sd_n (g := g) (i := i) (c := c) (d := d) (x := x) (y := y) e
      rw [a1, a2, a3, a4, a5, a6]
      exact ⟨hg, hi, hx, h6, h5, hy, h8⟩
    · rw [sd_o (by omega) (by omega), sd_o (by omega) (by omega), sd_o (by omega) (by omega), sd_o (by omega) (by omega), sd_o (by omega) (by omega), sd_o (by omega) (by omega)]
      exact h.2.2 j (by omega)
theorem spM_k {j : Nat} (hk : k ≤ 4) (hj : j < 3) (hp : p ≤ N) (hD : Dok k D) (h : (spM s N k j p D).1 = 0) : p ≤ (spM s N k j p D).2.1 ∧ (spM s N k j p D).2.1 ≤ N ∧ Dok k (spM s N k j p D).2.2 := by
  have b1 := tE_b (s := s) hp
  have b2 := tE_b (s := s) b1.2.1
  by_cases c : tK s N p = 2 ∧ tV s N p < k ∧ (if j = 0 then D 6 (tV s N p).toNat ≠ 0 else 0 ≤ D (6 + j) (tV s N p).toNat)
  · exfalso
    have e : spM s N k j p D = (3 + 16 * (skp s N p : Int), p, D) := by unfold spM; rw [if_pos c]
    rw [e] at h
    have : 3 + 16 * (skp s N p : Int) = 0 := h
    omega
  · by_cases c2 : tnF s N 0 (k - 1) p ≠ 0
    · exfalso
      have e : spM s N k j p D = (tnF s N 0 (k - 1) p, p, D) := by unfold spM; rw [if_neg c, if_pos c2]
      rw [e] at h
      exact c2 h
    · have q := tnF_0 (Decidable.not_not.mp c2)
      by_cases c3 : j = 0
      · have e : spM s N k j p D = (0, tE s N p, up D 6 (tV s N p).toNat 1) := by unfold spM; rw [if_neg c, if_neg c2, if_pos c3]
        rw [e]
        exact ⟨b1.1, b1.2.1, dok_upM hD (by omega) (by omega) (by omega) (by omega) (fun _ => Or.inr rfl) (fun g => absurd rfl g)⟩
      · by_cases c4 : tnF s N 0 100 (tE s N p) ≠ 0
        · exfalso
          have e : spM s N k j p D = (tnF s N 0 100 (tE s N p), p, D) := by unfold spM; rw [if_neg c, if_neg c2, if_neg c3, if_pos c4]
          rw [e] at h
          exact c4 h
        · have e : spM s N k j p D = (0, tE s N (tE s N p), up D (6 + j) (tV s N p).toNat (tV s N (tE s N p))) := by unfold spM; rw [if_neg c, if_neg c2, if_neg c3, if_neg c4]
          rw [e]
          have q2 := tnF_0 (Decidable.not_not.mp c4)
          exact ⟨by show p ≤ tE s N (tE s N p); omega, b2.2.1, dok_upM hD (by omega) (by omega) (by omega) (by omega) (fun g => by omega) (fun g => by omega)⟩
theorem spF_k {g : Int} (hk : k ≤ 4) (hp : p ≤ N) (hD : Dok k D) (hn : D 9 0 < 12) (hg : 0 ≤ g ∧ g ≤ 7) (h : (spF s N k g p D).1 = 0) : p ≤ (spF s N k g p D).2.1 ∧ (spF s N k g p D).2.1 ≤ N ∧ Dok k (spF s N k g p D).2.2 := by
  have b1 := tE_b (s := s) hp
  have b2 := tE_b (s := s) b1.2.1
  have b3 := tE_b (s := s) b2.2.1
  have b4 := tE_b (s := s) b3.2.1
  unfold spF at h ⊢
  split at h
  case isTrue c => exact absurd h c
  case isFalse c =>
    rw [if_neg c]
    split at h
    case isTrue c2 => exact absurd h c2
    case isFalse c2 =>
      rw [if_neg c2]
      split at h
      case isTrue c3 => exact absurd h c3
      case isFalse c3 =>
        rw [if_neg c3]
        split at h
        case isTrue c4 => exact absurd h c4
        case isFalse c4 =>
          rw [if_neg c4]
          have q1 := tnF_0 (Decidable.not_not.mp c)
          have q2 := tnF_0 (Decidable.not_not.mp c2)
          have q3 := tnF_0 (Decidable.not_not.mp c3)
          have q4 := toF_0 (Decidable.not_not.mp c4)
          exact ⟨by show p ≤ tE s N (tE s N (tE s N (tE s N p))); omega, b4.2.1, dok_say hD hn hg (by omega) (by omega) (fun q => by omega) (fun _ => by omega) (fun _ => by omega) (fun _ => ⟨by omega, fun _ => by omega⟩)⟩
theorem spB_k {g i : Int} (hk : k ≤ 4) (hi : i = 6 ∨ i = 7) (hp : p ≤ N) (hD : Dok k D) (hn : D 9 0 < 12) (hg : 0 ≤ g ∧ g ≤ 7) (h : (spB s N k g i p D).1 = 0) : p ≤ (spB s N k g i p D).2.1 ∧ (spB s N k g i p D).2.1 ≤ N ∧ Dok k (spB s N k g i p D).2.2 := by
  have b1 := tE_b (s := s) hp
  have b2 := tE_b (s := s) b1.2.1
  unfold spB at h ⊢
  split at h
  case isTrue c => exact absurd h c
  case isFalse c =>
    rw [if_neg c]
    split at h
    case isTrue c2 => exact absurd h c2
    case isFalse c2 =>
      rw [if_neg c2]
      have q1 := tnF_0 (Decidable.not_not.mp c)
      have q2 := tnF_0 (Decidable.not_not.mp c2)
      exact ⟨by show p ≤ tE s N (tE s N p); omega, b2.2.1, dok_say hD hn hg (by omega) (by omega) (fun _ => by omega) (fun q => by omega) (fun q => by omega) (fun _ => ⟨by omega, fun q => by omega⟩)⟩
theorem spP_k {g i hi : Int} (hi7 : hi ≤ 7) (h8 : i ≠ 8 → hi < k) (hi3 : i = 3 ∨ i = 4 ∨ i = 8) (hp : p ≤ N) (hD : Dok k D) (hn : D 9 0 < 12) (hg : 0 ≤ g ∧ g ≤ 7) (h : (spP s N hi g i p D).1 = 0) : p ≤ (spP s N hi g i p D).2.1 ∧ (spP s N hi g i p D).2.1 ≤ N ∧ Dok k (spP s N hi g i p D).2.2 := by
  have b1 := tE_b (s := s) hp
  have b2 := tE_b (s := s) b1.2.1
  unfold spP at h ⊢
  split at h
  case isTrue c => exact absurd h c
  case isFalse c =>
    rw [if_neg c]
    split at h
    case isTrue c2 => exact absurd h c2
    case isFalse c2 =>
      rw [if_neg c2]
      have q1 := tnF_0 (Decidable.not_not.mp c)
      have q2 := toF_0 (Decidable.not_not.mp c2)
      exact ⟨by show p ≤ tE s N (tE s N p); omega, b2.2.1, dok_say hD hn hg (by omega) (by omega) (fun q => by omega) (fun q => by omega) (fun _ => by omega) (fun q => ⟨by have := h8 q; omega, fun _ => by have := h8 q; omega⟩)⟩
theorem wix_r : wix s N p = -1 ∨ (tK s N p = 1 ∧ (wix s N p = 3 ∨ wix s N p = 4 ∨ wix s N p = 5 ∨ wix s N p = 6 ∨ wix s N p = 7 ∨ wix s N p = 8)) := by
  unfold wix
  repeat' split
  all_goals first | (rename_i c; exact Or.inr ⟨c.1, by omega⟩) | exact Or.inl rfl
theorem spS_k {g : Int} (hk : k ≤ 4) (hp : p ≤ N) (hD : Dok k D) (hn : D 9 0 < 12) (hg : 0 ≤ g ∧ g ≤ 7) (h : (spS s N k g p D).1 = 0) : p ≤ (spS s N k g p D).2.1 ∧ (spS s N k g p D).2.1 ≤ N ∧ Dok k (spS s N k g p D).2.2 := by
  have b1 := tE_b (s := s) hp
  have w := wix_r (s := s) (N := N) (p := p)
  unfold spS at h ⊢
  split at h
  case isTrue c =>
    exfalso
    have : 1 + 16 * (skp s N p : Int) = 0 := h
    omega
  case isFalse c =>
    rw [if_neg c]
    split at h
    case isTrue c2 =>
      rw [if_pos c2]
      have := spF_k hk b1.2.1 hD hn hg h
      exact ⟨by omega, this.2⟩
    case isFalse c2 =>
      rw [if_neg c2]
      split at h
      case isTrue c3 =>
        rw [if_pos c3]
        have := spB_k hk c3 b1.2.1 hD hn hg h
        exact ⟨by omega, this.2⟩
      case isFalse c3 =>
        rw [if_neg c3]
        have := spP_k (k := k) (by split <;> omega) (fun q => by rw [if_neg q]; omega) (by omega) b1.2.1 hD hn hg h
        exact ⟨by omega, this.2⟩
theorem spT_k (hk : k ≤ 4) (hp : p ≤ N) (hK : tK s N p ≠ 0) (hD : Dok k D) (h : (spT s N k p D).1 = 0) : p < (spT s N k p D).2.1 ∧ (spT s N k p D).2.1 ≤ N ∧ Dok k (spT s N k p D).2.2 := by
  have b1 := tE_b (s := s) hp
  have b0 := skp_b (s := s) hp
  have nk : skp s N p ≠ N := fun q => hK ((tK_0 hp).mpr q)
  have lt : p < tE s N p := by have := b1.2.2.2 (by omega); omega
  unfold spT at h ⊢
  split at h
  case isTrue c => rw [if_pos c]; have := spM_k hk (by omega) b1.2.1 hD h; exact ⟨by omega, this.2⟩
  case isFalse c =>
    rw [if_neg c]
    split at h
    case isTrue c => rw [if_pos c]; have := spM_k hk (by omega) b1.2.1 hD h; exact ⟨by omega, this.2⟩
    case isFalse c =>
      rw [if_neg c]
      split at h
      case isTrue c => rw [if_pos c]; have := spM_k hk (by omega) b1.2.1 hD h; exact ⟨by omega, this.2⟩
      case isFalse c =>
        rw [if_neg c]
        split at h
        case isTrue c =>
          exfalso
          have : 1 + 16 * (skp s N p : Int) = 0 := h
          omega
        case isFalse c =>
          rw [if_neg c]
          split at h
          case isTrue c =>
            exfalso
            have : 5 + 16 * (skp s N p : Int) = 0 := h
            omega
          case isFalse c5 =>
            rw [if_neg c5]
            have q9 := hD.2.1
            have := spS_k hk b1.2.1 hD (by omega) (by have := Decidable.not_not.mp c; omega) h
            exact ⟨by omega, this.2⟩
theorem spA_k (hk : k ≤ 4) (hp : p ≤ N) (hK : tK s N p ≠ 0) (hD : Dok k D) (h : (spA s N k p D).1 = 0) : p < (spA s N k p D).2.1 ∧ (spA s N k p D).2.1 ≤ N ∧ Dok k (spA s N k p D).2.2 := by
  unfold spA at h ⊢
  split at h
  case isTrue c => exact absurd h c
  case isFalse c =>
    rw [if_neg c]
    have q := spT_k hk hp hK hD (Decidable.not_not.mp c)
    split at h
    case isTrue c2 =>
      rw [if_pos c2]
      have b := tE_b (s := s) q.2.1
      exact ⟨by show p < tE s N _; omega, b.2.1, q.2.2⟩
    case isFalse c2 =>
      exfalso
      have : 1 + 16 * (skp s N (spT s N k p D).2.1 : Int) = 0 := h
      omega
end
