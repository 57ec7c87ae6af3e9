/-! the start: what the constructors leave (st_26, st_0: printed by tools/genstart.py) -/
set_option maxRecDepth 100000 in
def st_26 (σ : HS) : HS := (sI (sI (sI (sI (sR (sI (sR (sN (sR (sN (sR (sN (sR (sN (sR (sN (sR (sN (sR (sN (sR (sN (sR (sN (sN (sR (sI (sR (sN (sR (sN (sR (sN (sR (sN (sR (sN (sR (sN (sR (sN (sR (sN (sR (sN (sN (sR (sN (sR (sN (sR (sN (sR (sN (sR (sJ (sJ (sN (sR (sI (sI (sI (sI (sI (sI (sN (sR (sR (sR (sI (sI (sI (sR (sN (sN (sR (sR (sR (sI (sN (sR (sR (sR (sR (sN (sR (sN (sR (sN (sR (sN (sR (sN (sR (sN (sR (sM (sN (sR (sR (sI (sI (sI (sR (sN (sR (sN (sR (sN (sN (sR (sI (sI (sI (sR (sN (sR (sN (sR (sN (sN (sR (sI (sI (sI (sR (sN (sR (sN (sR (sN (sN (sR (sI (sI (sI (sR (sN (sR (sN (sR (sN (sN (sR (sI (sI (sI (sR (sN (sR (sN (sR (sN (sN (sR (sI (sI (sI (sR (sN (sR (sN (sR (sN (sN (sR (sI (sI (sI (sR (sN (sR (sN (sR (sN (sN (sR (sI (sI (sI (sR (sN (sR (sN (sR (sN (sN (sR (sI (sI (sI (sR (sN (sR (sN (sR (sN (sN (sR (sI (sI (sI (sR (sN (sR (sN (sR (sN (sN (sR (sI (sI (sI (sR (sN (sR (sN (sR (sN (sN (sR (sI (sI (sI (sR (sN (sR (sN (sR (sN (sN (sR (sI (sI (sI (sR (sN (sR (sN (sR (sN (sN (sI (sR (sN (sR (sI (sI (sI (sR (sN (sR (sN (sR (sN (sN (sR (sI (sI (sI (sR (sN (sR (sN (sR (sN (sN (sR (sM (sN (sR (sI (sI (sR (sN (sR (sM (sR (sM (sN (sR (sR (sI (sI (sN (sR (sI (sI (sI (sI (sR (sN (sN σ 27) 28) 27 0 (some 28)) 27 1 0) 27 2 0) 27 3 0) 27 4 0) 26 0 (some 27)) 29) 29 1 0) 29 2 0) 29 0 (some 27)) 26 1 (some 29)) 30) 31 8) 30 0 (some 31)) 40 8) 30 1 (some 40)) 49) 30 2 (some 49)) 30 3 0) 30 4 0) 26 2 (some 30)) 50) 51 12) 50 0 (some 51)) 64) 65) 64 0 (some 65)) 66) 64 1 (some 66)) 67) 64 2 (some 67)) 64 3 0) 64 4 0) 64 5 0) 50 1 (some 64)) 68) 69) 68 0 (some 69)) 70) 68 1 (some 70)) 71) 68 2 (some 71)) 68 3 0) 68 4 0) 68 5 0) 50 2 (some 68)) 72) 50 3 (some 72)) 50 4 0) 73) 74) 73 0 (some 74)) 75) 73 1 (some 75)) 76) 73 2 (some 76)) 73 3 0) 73 4 0) 73 5 0) 72 0 (some 73)) 77) 78) 77 0 (some 78)) 79) 77 1 (some 79)) 80) 77 2 (some 80)) 77 3 0) 77 4 0) 77 5 0) 72 1 (some 77)) 81) 82) 81 0 (some 82)) 83) 81 1 (some 83)) 84) 81 2 (some 84)) 81 3 0) 81 4 0) 81 5 0) 72 2 (some 81)) 85) 86) 85 0 (some 86)) 87) 85 1 (some 87)) 88) 85 2 (some 88)) 85 3 0) 85 4 0) 85 5 0) 72 3 (some 85)) 89) 90) 89 0 (some 90)) 91) 89 1 (some 91)) 92) 89 2 (some 92)) 89 3 0) 89 4 0) 89 5 0) 72 4 (some 89)) 93) 94) 93 0 (some 94)) 95) 93 1 (some 95)) 96) 93 2 (some 96)) 93 3 0) 93 4 0) 93 5 0) 72 5 (some 93)) 97) 98) 97 0 (some 98)) 99) 97 1 (some 99)) 100) 97 2 (some 100)) 97 3 0) 97 4 0) 97 5 0) 72 6 (some 97)) 101) 102) 101 0 (some 102)) 103) 101 1 (some 103)) 104) 101 2 (some 104)) 101 3 0) 101 4 0) 101 5 0) 72 7 (some 101)) 105) 106) 105 0 (some 106)) 107) 105 1 (some 107)) 108) 105 2 (some 108)) 105 3 0) 105 4 0) 105 5 0) 72 8 (some 105)) 109) 110) 109 0 (some 110)) 111) 109 1 (some 111)) 112) 109 2 (some 112)) 109 3 0) 109 4 0) 109 5 0) 72 9 (some 109)) 113) 114) 113 0 (some 114)) 115) 113 1 (some 115)) 116) 113 2 (some 116)) 113 3 0) 113 4 0) 113 5 0) 72 10 (some 113)) 117) 118) 117 0 (some 118)) 119) 117 1 (some 119)) 120) 117 2 (some 120)) 117 3 0) 117 4 0) 117 5 0) 72 11 (some 117)) 121) 122) 121 0 (some 122)) 123) 121 1 (some 123)) 124) 121 2 (some 124)) 121 3 0) 121 4 0) 121 5 0) 72 12 (some 121)) 26 3 (some 50)) 125) 126 8) 125 2 (some 126)) 135) 125 3 (some 135)) 136) 125 4 (some 136)) 137) 125 5 (some 137)) 138) 125 6 (some 138)) 139) 125 7 (some 139)) 140) 125 8 (some 140)) 125 0 (some 30)) 125 1 (some 50)) 26 4 (some 125)) 141) 141 2 0) 141 0 (some 72)) 141 1 (some 51)) 26 5 (some 141)) 142) 143) 142 2 (some 143)) 142 3 0) 142 4 0) 142 5 (-1)) 142 0 (some 50)) 142 1 (some 125)) 26 6 (some 142)) 144) 144 0 0) 144 1 0) 144 2 0) 144 3 0) 144 4 0) 144 5 0) 26 7 (some 144)) 145) 145 0 0) 145 1 1) 26 8 (some 145)) 146) 26 9 (some 146)) 147) 26 10 (some 147)) 148) 26 11 (some 148)) 149) 26 12 (some 149)) 150) 151) 150 0 (some 151)) 152) 150 1 (some 152)) 153) 150 2 (some 153)) 154) 150 3 (some 154)) 155) 150 4 (some 155)) 156) 150 5 (some 156)) 157) 150 6 (some 157)) 158) 150 7 (some 158)) 159) 150 8 (some 159)) 150 9 0) 26 14 (some 150)) 160) 161) 160 0 (some 161)) 162) 160 1 (some 162)) 163) 160 2 (some 163)) 164) 160 3 (some 164)) 165) 160 4 (some 165)) 166) 160 5 (some 166)) 167) 160 6 (some 167)) 168) 160 7 (some 168)) 169) 160 8 (some 169)) 160 9 0) 26 15 (some 160)) 148 0 (-1)) 148 1 (-1)) 148 2 (-1)) 148 3 (-1))
set_option maxRecDepth 100000 in
def st_0 (σ : HS) : HS := (sR (sN (sI (sR (sN (sR (sN (sR (sN (sR (sN (sR (sN (sR (sN (sR (sN (sR (sN (sR (sN (sR (sN (sR (sN (sR (sN (sR (sN (sR (sN (sR (sN (sR (sN (sR (sN (sR (sN (sR (sJ (sJ (sJ (sJ (sJ (sJ (sJ (sJ (sJ (sJ (sJ (sJ (sJ (sJ (sJ (sJ (sJ (sN (sR (sN (sR (sN (sR (sN (sR (sN σ 1) 0 1 (some 1)) 2) 0 4 (some 2)) 3) 0 5 (some 3)) 4) 0 6 (some 4)) 5) 5 0 615403) 5 1 4160) 5 2 687961) 5 3 679695) 5 4 38660676) 5 5 989988) 5 6 22745289) 5 7 679747) 5 8 149099362) 5 9 1) 5 10 2) 5 11 3) 5 12 4) 5 13 5) 5 14 6) 5 15 7) 5 16 8) 0 9 (some 5)) 6) 0 10 (some 6)) 7) 0 11 (some 7)) 8) 0 12 (some 8)) 9) 0 13 (some 9)) 10) 0 14 (some 10)) 11) 0 15 (some 11)) 12) 0 16 (some 12)) 13) 0 17 (some 13)) 14) 0 18 (some 14)) 15) 0 19 (some 15)) 16) 0 21 (some 16)) 17) 0 22 (some 17)) 18) 0 25 (some 18)) 19) 0 27 (some 19)) 20) 0 28 (some 20)) 21) 0 29 (some 21)) 22) 0 30 (some 22)) 23) 0 31 (some 23)) 0 32 (-1)) 24) 0 35 (some 24))
def In0 (A : Nat → Nat → Int) : Prop := (∀ m, m < 4 → A 6 m = 0 ∧ A 7 m = -1 ∧ A 8 m = -1) ∧ A 9 0 = 0 ∧ (∀ t, t < 8 → A 16 t = 0) ∧ (∀ t m, t < 8 → m < 4 → A 17 (4 * t + m) = 0) ∧ A 0 20 = 3 ∧ A 0 23 = 255 ∧ A 0 24 = 0 ∧ A 0 2 = 0
theorem wall_0 {A : Nat → Nat → Int} (h : In0 A) (h32 : A 0 32 = -1) : Wall A := by
  obtain ⟨h1, h2, h3, h4, h5, h6, h7, h8⟩ := h
  refine ⟨⟨by rw [h5]; omega, fun t ht => Or.inl (h3 t ht), fun t m ht hm => by rw [h4 t m ht hm]; omega, fun m hm => ?_⟩, ⟨by rw [h2]; omega, fun i hi => by rw [h2] at hi; omega⟩, by unfold Wv; rw [h6]; omega, ⟨by rw [h32]; omega, fun q => absurd h32 q⟩, h32, ⟨by rw [h7]; omega, fun p hp => by rw [h7] at hp; omega, fun p q hp => by rw [h7] at hp; omega⟩, ⟨by rw [h8]; omega, fun i hi => by rw [h8] at hi; omega⟩⟩
  have q := h1 m hm
  rw [q.1, q.2.1, q.2.2]
  exact ⟨Or.inl rfl, by omega, by omega, fun _ => ⟨rfl, rfl, rfl⟩⟩
/-- the reference is new -/
theorem a_new {ζ : ZS} (h32 : ζ.1 0 32 = -1) (h2 : ζ.1 0 2 = 0) (h17 : ∀ t m, t < 8 → m < 4 → ζ.1 17 (4 * t + m) = 0) : Ok (g_X12_clears 3 ζ) (fun ζ' => In0 ζ'.1 ∧ Wall ζ'.1 ∧ Rf ζ'.1 ζ' ∧ ζ'.2 = ζ.2 ∧ ∀ x y, ¬ x < 25 → ζ'.1 x y = ζ.1 x y) := by
  refine ok_mono s_clears (fun ζ' ⟨e1, e2⟩ => ?_)
  have i0 : In0 ζ'.1 := by
    refine ⟨fun m hm => ?_, by rw [e1]; rfl, fun t ht => ?_, fun t m ht hm => ?_, by rw [e1]; rfl, by rw [e1]; rfl, by rw [e1]; rfl, ?_⟩
    · rw [e1 6 m, e1 7 m, e1 8 m]
      unfold clrA
      rw [if_neg (by omega), if_neg (by omega), if_neg (by omega), if_pos (by omega), if_neg (by omega), if_neg (by omega), if_neg (by omega), if_neg (by omega), if_pos (by omega), if_neg (by omega), if_neg (by omega), if_neg (by omega), if_neg (by omega), if_pos (by omega)]
      exact ⟨rfl, rfl, rfl⟩
    · rw [e1]
      unfold clrA
      rw [if_neg (by omega), if_pos (by omega)]
    · rw [e1]
      unfold clrA
      rw [if_neg (by omega), if_neg (by omega), if_neg (by omega), if_neg (by omega), if_neg (by omega), if_neg (by omega), if_neg (by omega)]
      exact h17 t m ht hm
    · rw [e1]
      exact h2
  refine ⟨i0, wall_0 i0 (by rw [e1]; exact h32), fun x y _ => rfl, e2, fun x y hx => ?_⟩
  rw [e1]
  unfold clrA
  rw [if_neg (by omega), if_neg (by omega), if_neg (by omega), if_neg (by omega), if_neg (by omega), if_neg (by omega), if_neg (by omega)]
/-- the class is new -/
theorem b_new {ζ : ZS} (r1 : ζ.2.2 26 14 = some 150) (r2 : ζ.2.2 26 15 = some 160) (h17 : ∀ t m, t < 8 → m < 4 → ζ.1 (32 + t) m = 0) (h27 : ζ.1 27 1 = 0) (h148 : ∀ m, m < 4 → ζ.1 148 m = -1) : Ok (g_X11_beginWith 3 ζ) (fun ζ' => (∀ A, In0 A → Cls A ζ') ∧ Fx (fun x _ => 26 ≤ x) ζ ζ') := by
  unfold g_X11_beginWith
  refine ok_rk (a := 150) r1 rfl (ok_bind s_clearC (fun q ⟨e1, e2⟩ => ok_some ⟨fun A hA => ?_, ?_⟩))
  · obtain ⟨a1, a2, a3, a4, a5, a6, a7, a8⟩ := hA
    have z : ∀ x y, ¬ (x = 26 ∧ (y = 13 ∨ y = 16 ∨ y = 17 ∨ y = 18)) → ¬ (x = 30 ∧ y = 3) → ¬ (150 ≤ x ∧ x ≤ 159) → (zI (zI (zI q 26 13 0) 26 17 255) 26 18 1).1 x y = ζ.1 x y := fun x y q1 q2 q3 => by
      rw [zI_1, if_neg (by omega), zI_1, if_neg (by omega), zI_1, if_neg (by omega), e1 x y, if_neg (by omega), if_neg (by omega), zI_1, if_neg (by omega), zI_1, if_neg (by omega)]
    have zq : ∀ x y, x ≠ 26 → (zI (zI (zI q 26 13 0) 26 17 255) 26 18 1).1 x y = q.1 x y := fun x y q1 => by rw [zI_1, if_neg (by omega), zI_1, if_neg (by omega), zI_1, if_neg (by omega)]
    refine ⟨⟨⟨150, 160, Or.inl rfl, Or.inr rfl, by omega, ?_, ?_, ⟨fun m hm => ?_, ?_, fun i hi => by rw [a2] at hi; omega⟩⟩, ⟨?_, fun t m ht hm => ?_⟩, ?_, ?_, ?_, fun p hp => by rw [a7] at hp; omega, ?_, fun i hi => by rw [a8] at hi; omega, fun m hm => ?_⟩, Or.inr ?_, fun g => ?_⟩
    · show q.2.2 26 14 = _; rw [e2]; exact r1
    · show q.2.2 26 15 = _; rw [e2]; exact r2
    · have w := a1 m hm
      have v1 : ∀ w, w = 151 ∨ w = 152 ∨ w = 153 → q.1 w m = -1 := fun w hw => by rw [e1, if_neg (by omega), if_pos ⟨by omega, hm⟩]
      rw [zq _ _ (by omega), zq _ _ (by omega), zq _ _ (by omega), v1 _ (by omega), v1 _ (by omega), v1 _ (by omega), w.1, w.2.1, w.2.2]
      exact ⟨rfl, rfl, rfl⟩
    · rw [zq _ _ (by omega), e1, if_pos ⟨rfl, rfl⟩, a2]
    · rw [zq _ _ (by omega), e1, if_neg (by omega), if_neg (by omega), zI_1, if_pos ⟨rfl, rfl⟩]
      have : msk (told A) 8 = msk (fun _ => false) 8 := msk_congr (fun i hi => by unfold told; rw [a3 i hi]; rfl)
      rw [this]; rfl
    · rw [z _ _ (by omega) (by omega) (by omega), a4 t m ht hm]; exact h17 t m ht hm
    · rw [zI_1, if_neg (by omega), zI_1, if_neg (by omega), zI_1, if_neg (by omega), e1, if_neg (by omega), if_neg (by omega), zI_1, if_neg (by omega), zI_1, if_pos ⟨rfl, rfl⟩, a5]
    · rw [zI_1, if_neg (by omega), zI_1, if_pos ⟨rfl, rfl⟩, a6]
    · rw [zI_1, if_neg (by omega), zI_1, if_neg (by omega), zI_1, if_pos ⟨rfl, rfl⟩, a7]
    · rw [z _ _ (by omega) (by omega) (by omega), a8]; exact h27
    · rw [z _ _ (by omega) (by omega) (by omega)]; exact h148 m hm
    · rw [zI_1, if_pos ⟨rfl, rfl⟩]
    · rw [zI_1, if_pos ⟨rfl, rfl⟩] at g; omega
  · refine ⟨fun x y hx => ⟨?_, by show q.2.1 x y = _; rw [e2]; rfl⟩, by show q.2.2 = _; rw [e2]; rfl⟩
    have hx : ¬ 26 ≤ x := hx
    rw [zI_1, if_neg (by omega), zI_1, if_neg (by omega), zI_1, if_neg (by omega), e1 x y, if_neg (by omega), if_neg (by omega), zI_1, if_neg (by omega), zI_1, if_neg (by omega)]
