/-! the references that stay, at the start (printed by tools/genshape.py) -/
def AlP {α : Type} (P : α → Prop) : List α → Prop
  | [] => True
  | x :: l => P x ∧ AlP P l
theorem alp_m {α : Type} {P : α → Prop} : ∀ {l : List α}, AlP P l → ∀ x, x ∈ l → P x
  | [], _, x, h => by cases h
  | y :: l, h, x, hx => by
    cases hx with
    | head => exact h.1
    | tail _ q => exact alp_m h.2 x q
set_option maxRecDepth 100000 in
set_option maxHeartbeats 4000000 in
def pL0 : List (Nat × Nat × Nat) := [(0, 1, 1), (0, 4, 2), (0, 5, 3), (0, 6, 4), (0, 9, 5), (0, 10, 6), (0, 11, 7), (0, 12, 8), (0, 13, 9), (0, 14, 10), (0, 15, 11), (0, 16, 12), (0, 17, 13), (0, 18, 14), (0, 19, 15), (0, 21, 16), (0, 22, 17), (0, 25, 18), (0, 27, 19), (0, 28, 20), (0, 29, 21), (0, 30, 22), (0, 31, 23), (0, 35, 24)]
set_option maxRecDepth 100000 in
set_option maxHeartbeats 4000000 in
def pL1 : List (Nat × Nat × Nat) := [(26, 0, 27), (26, 1, 29), (26, 2, 30), (26, 3, 50), (26, 4, 125), (26, 5, 141), (26, 6, 142), (26, 7, 144), (26, 8, 145), (26, 9, 146), (26, 10, 147), (26, 11, 148), (26, 12, 149), (27, 0, 28), (29, 0, 27), (30, 0, 31), (30, 1, 40), (30, 2, 49), (31, 0, 32), (31, 1, 33), (31, 2, 34), (31, 3, 35), (31, 4, 36), (31, 5, 37), (31, 6, 38), (31, 7, 39), (40, 0, 41), (40, 1, 42), (40, 2, 43), (40, 3, 44), (40, 4, 45), (40, 5, 46), (40, 6, 47), (40, 7, 48), (50, 0, 51), (50, 1, 64), (50, 2, 68), (50, 3, 72), (51, 0, 52), (51, 1, 53), (51, 2, 54), (51, 3, 55), (51, 4, 56), (51, 5, 57), (51, 6, 58), (51, 7, 59), (51, 8, 60), (51, 9, 61), (51, 10, 62), (51, 11, 63), (64, 0, 65), (64, 1, 66), (64, 2, 67), (68, 0, 69), (68, 1, 70), (68, 2, 71), (72, 0, 73), (72, 1, 77), (72, 2, 81), (72, 3, 85), (72, 4, 89), (72, 5, 93), (72, 6, 97), (72, 7, 101), (72, 8, 105), (72, 9, 109), (72, 10, 113), (72, 11, 117), (72, 12, 121), (73, 0, 74), (73, 1, 75), (73, 2, 76), (77, 0, 78), (77, 1, 79), (77, 2, 80), (81, 0, 82), (81, 1, 83), (81, 2, 84), (85, 0, 86), (85, 1, 87), (85, 2, 88), (89, 0, 90), (89, 1, 91), (89, 2, 92), (93, 0, 94), (93, 1, 95), (93, 2, 96), (97, 0, 98), (97, 1, 99), (97, 2, 100), (101, 0, 102), (101, 1, 103), (101, 2, 104), (105, 0, 106), (105, 1, 107), (105, 2, 108), (109, 0, 110), (109, 1, 111), (109, 2, 112), (113, 0, 114), (113, 1, 115), (113, 2, 116), (117, 0, 118), (117, 1, 119), (117, 2, 120), (121, 0, 122), (121, 1, 123), (121, 2, 124), (125, 0, 30), (125, 1, 50), (125, 2, 126), (125, 3, 135), (125, 4, 136), (125, 5, 137), (125, 6, 138), (125, 7, 139), (125, 8, 140), (126, 0, 127), (126, 1, 128), (126, 2, 129), (126, 3, 130), (126, 4, 131), (126, 5, 132), (126, 6, 133), (126, 7, 134), (141, 0, 72), (142, 0, 50), (142, 1, 125), (142, 2, 143), (150, 0, 151), (150, 1, 152), (150, 2, 153), (150, 3, 154), (150, 4, 155), (150, 5, 156), (150, 6, 157), (150, 7, 158), (150, 8, 159), (160, 0, 161), (160, 1, 162), (160, 2, 163), (160, 3, 164), (160, 4, 165), (160, 5, 166), (160, 6, 167), (160, 7, 168), (160, 8, 169)]
set_option maxRecDepth 100000 in
set_option maxHeartbeats 4000000 in
theorem pl_0 (σ : HS) : AlP (fun x => (st_0 σ).2.2 x.1 x.2.1 = some x.2.2) pL0 := ⟨rfl, rfl, rfl, rfl, rfl, rfl, rfl, rfl, rfl, rfl, rfl, rfl, rfl, rfl, rfl, rfl, rfl, rfl, rfl, rfl, rfl, rfl, rfl, rfl, trivial⟩
set_option maxRecDepth 100000 in
set_option maxHeartbeats 4000000 in
theorem pl_1 (σ : HS) : AlP (fun x => (st_26 σ).2.2 x.1 x.2.1 = some x.2.2) pL1 := ⟨rfl, rfl, rfl, rfl, rfl, rfl, rfl, rfl, rfl, rfl, rfl, rfl, rfl, rfl, rfl, rfl, rfl, rfl, rfl, rfl, rfl, rfl, rfl, rfl, rfl, rfl, rfl, rfl, rfl, rfl, rfl, rfl, rfl, rfl, rfl, rfl, rfl, rfl, rfl, rfl, rfl, rfl, rfl, rfl, rfl, rfl, rfl, rfl, rfl, rfl, rfl, rfl, rfl, rfl, rfl, rfl, rfl, rfl, rfl, rfl, rfl, rfl, rfl, rfl, rfl, rfl, rfl, rfl, rfl, rfl, rfl, rfl, rfl, rfl, rfl, rfl, rfl, rfl, rfl, rfl, rfl, rfl, rfl, rfl, rfl, rfl, rfl, rfl, rfl, rfl, rfl, rfl, rfl, rfl, rfl, rfl, rfl, rfl, rfl, rfl, rfl, rfl, rfl, rfl, rfl, rfl, rfl, rfl, rfl, rfl, rfl, rfl, rfl, rfl, rfl, rfl, rfl, rfl, rfl, rfl, rfl, rfl, rfl, rfl, rfl, rfl, rfl, rfl, rfl, rfl, rfl, rfl, rfl, rfl, rfl, rfl, rfl, rfl, rfl, rfl, rfl, rfl, rfl, rfl, rfl, rfl, rfl, trivial⟩
theorem kd_lt {c : Nat} (h : kd c ≠ 99) : c < 170 := by
  apply Classical.byContradiction
  intro q
  apply h
  have h0 : kdT.length = 170 := by decide +kernel
  unfold kd
  rw [List.getD_eq_getElem?_getD, List.getElem?_eq_none (by omega)]
  rfl
theorem lk_lt {k b : Nat} : ∀ (l : List (Nat × Nat)), (∀ e, e ∈ l → e.1 < 40) → l.lookup k = some b → k < 40
  | [], _, h => by cases h
  | (a, d) :: l, hl, h => by
    rw [List.lookup_cons] at h
    cases e : k == a with
    | true =>
      have h1 : a < 40 := hl (a, d) (List.mem_cons_self ..)
      have h2 : k = a := eq_of_beq e
      omega
    | false => rw [e] at h; exact lk_lt l (fun e q => hl e (List.mem_cons_of_mem _ q)) h
theorem ptL_s (c : Nat) : ∀ e, e ∈ ptL c → e.1 < 40 := by
  unfold ptL
  split <;> decide
theorem ptL_b {c : Nat} (h : 170 ≤ c) : ptL c = [] := by
  unfold ptL
  split <;> first | omega | rfl
theorem pt_r {c k b : Nat} (h : pt c k = some b) : c < 170 ∧ k < 40 := by
  unfold pt at h
  split at h
  case isTrue q =>
    refine ⟨kd_lt (by rw [q]; decide), ?_⟩
    split at h
    · omega
    · cases h
  case isFalse =>
    split at h
    case isTrue q =>
      refine ⟨kd_lt (by rw [q]; decide), ?_⟩
      split at h
      · omega
      · cases h
    case isFalse =>
      split at h
      case isTrue q =>
        refine ⟨kd_lt (by rw [q]; decide), ?_⟩
        split at h
        · have := (kd_c18 c q).2.1; omega
        · cases h
      case isFalse =>
        split at h
        case isTrue q =>
          refine ⟨kd_lt (by rw [q]; decide), ?_⟩
          split at h
          · omega
          · cases h
        case isFalse =>
          refine ⟨?_, lk_lt _ (ptL_s c) h⟩
          apply Classical.byContradiction
          intro q
          rw [ptL_b (by omega)] at h
          cases h
set_option maxRecDepth 100000 in
set_option maxHeartbeats 4000000 in
theorem pt_all : ∀ c, c < 170 → ∀ k, k < 40 → (match pt c k with | some b => (pL0 ++ pL1).contains (c, k, b) | none => true) = true := by decide +kernel
theorem pt_in {c k b : Nat} (h : pt c k = some b) : (c, k, b) ∈ pL0 ∨ (c, k, b) ∈ pL1 := by
  have r := pt_r h
  have q := pt_all c r.1 k r.2
  rw [h] at q
  have q : (pL0 ++ pL1).contains (c, k, b) = true := q
  rw [List.contains_iff_mem] at q
  exact List.mem_append.mp q
set_option maxRecDepth 100000 in
set_option maxHeartbeats 4000000 in
theorem pl_r : (∀ x, x ∈ pL0 → x.1 = 0) ∧ ∀ x, x ∈ pL1 → 26 ≤ x.1 := ⟨by decide +kernel, by decide +kernel⟩
