/-! the start, closed -/
def zH : HS := (fun _ _ => 0, fun _ _ => 0, pt)
set_option maxRecDepth 100000 in
set_option maxHeartbeats 4000000 in
theorem fi_0 (σ : HS) : f_X12_init_0 σ = (f_X12_clears 0 3 (st_0 σ)).bind fun q1 => some q1 := by rfl
set_option maxRecDepth 100000 in
set_option maxHeartbeats 4000000 in
theorem fi_26 (σ : HS) : f_X11_init_26 σ = (f_X11_beginWith 26 3 (st_26 σ)).bind fun q1 => some q1 := by rfl
set_option maxRecDepth 100000 in
set_option maxHeartbeats 4000000 in
theorem st_26f (σ : HS) : (st_26 σ).2.2 26 14 = some 150 ∧ (st_26 σ).2.2 26 15 = some 160 ∧ (st_26 σ).1 27 1 = 0 ∧ (st_26 σ).1 148 0 = -1 ∧ (st_26 σ).1 148 1 = -1 ∧ (st_26 σ).1 148 2 = -1 ∧ (st_26 σ).1 148 3 = -1 := ⟨rfl, rfl, rfl, rfl, rfl, rfl, rfl⟩
set_option maxRecDepth 100000 in
set_option maxHeartbeats 4000000 in
theorem st_26z (σ : HS) (m : Nat) : ∀ t, t < 8 → (st_26 σ).1 (32 + t) m = 0
  | 0, _ => rfl
  | 1, _ => rfl
  | 2, _ => rfl
  | 3, _ => rfl
  | 4, _ => rfl
  | 5, _ => rfl
  | 6, _ => rfl
  | 7, _ => rfl
  | n + 8, h => absurd h (by omega)
set_option maxRecDepth 100000 in
set_option maxHeartbeats 4000000 in
theorem st_0f (σ : HS) (m : Nat) : (st_0 σ).1 0 32 = -1 ∧ (st_0 σ).1 17 m = 0 ∧ (st_0 σ).1 0 2 = σ.1 0 2 ∧ (st_0 σ).2.1 5 0 = 615403 ∧ (st_0 σ).2.1 5 1 = 4160 ∧ (st_0 σ).2.1 5 2 = 687961 ∧ (st_0 σ).2.1 5 3 = 679695 ∧ (st_0 σ).2.1 5 4 = 38660676 ∧ (st_0 σ).2.1 5 5 = 989988 ∧ (st_0 σ).2.1 5 6 = 22745289 ∧ (st_0 σ).2.1 5 7 = 679747 ∧ (st_0 σ).2.1 5 8 = 149099362 ∧ (st_0 σ).2.1 5 9 = 1 ∧ (st_0 σ).2.1 5 10 = 2 ∧ (st_0 σ).2.1 5 11 = 3 ∧ (st_0 σ).2.1 5 12 = 4 ∧ (st_0 σ).2.1 5 13 = 5 ∧ (st_0 σ).2.1 5 14 = 6 ∧ (st_0 σ).2.1 5 15 = 7 ∧ (st_0 σ).2.1 5 16 = 8 := ⟨rfl, rfl, rfl, rfl, rfl, rfl, rfl, rfl, rfl, rfl, rfl, rfl, rfl, rfl, rfl, rfl, rfl, rfl, rfl, rfl⟩
