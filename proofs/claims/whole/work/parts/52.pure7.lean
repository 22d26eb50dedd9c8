/-! fractions of reach, meet (rows laid by wip/whole) -/
theorem fr_reach {pl : List Int} {f P : Int → Int} {a w W K y v : Int} {up : Prop} [Decidable up] (hf : ∀ y, 0 ≤ f y) (hK : 0 < K) (F : FrOk pl f a w P W K) (y0 : a ≤ y) (y1 : y < a + w) (hv : rd8 pl y = v) (v0 : 0 ≤ v) (v8 : v < 8) : fcA (P v) W up = fcA (f y) K up := by
  obtain ⟨F1, F2, F3, F4⟩ := F
  have e := F3 y y0 y1 (by omega)
  rw [hv] at e
  exact fcA_cross (F2 v v0 v8) F1 (hf y) hK e
theorem fr_meet {pl : List Int} {f P1 P2 : Int → Int} {a w W1 W2 K x y u v : Int} {up : Prop} [Decidable up] (hf : ∀ y, 0 ≤ f y) (hK : 0 < K) (F : FrOk pl f a w P1 W1 K) (F' : FrOk pl f (a + w) w P2 W2 K) (hdis : ∀ x y : Int, a ≤ x → x < a + 2 * w → a ≤ y → y < a + 2 * w → rd8 pl x = rd8 pl y → rd8 pl x ≠ 8 → x = y) (hw : 0 ≤ w) (x0 : a ≤ x) (x1 : x < a + w) (y0 : a + w ≤ y) (y1 : y < a + 2 * w) (hu : rd8 pl x = u) (hv : rd8 pl y = v) (u0 : 0 ≤ u) (u8 : u < 8) (v0 : 0 ≤ v) (v8 : v < 8) : fcA ((P1 u + P2 u) * (P1 v + P2 v)) (W1 * W2) up = fcA (f x * f y) (K * K) up ∧ fcA ((P1 v + P2 v) * (P1 u + P2 u)) (W1 * W2) up = fcA (f y * f x) (K * K) up := by
  obtain ⟨F1, F2, F3, F4⟩ := F
  obtain ⟨G1, G2, G3, G4⟩ := F'
  have e1 := F3 x x0 x1 (by omega)
  have e2 := G3 y y0 (by omega) (by omega)
  rw [hu] at e1
  rw [hv] at e2
  have z1 : P2 u = 0 := by
    obtain ⟨q, rfl⟩ := Int.eq_ofNat_of_zero_le u0
    exact G4 q (by omega) (fun t t0 t1 h => by have := hdis x t x0 (by omega) (by omega) (by omega) (by omega) (by omega); omega)
  have z2 : P1 v = 0 := by
    obtain ⟨q, rfl⟩ := Int.eq_ofNat_of_zero_le v0
    exact F4 q (by omega) (fun t t0 t1 h => by have := hdis t y t0 (by omega) (by omega) y1 (by omega) (by omega); omega)
  rw [z1, z2, Int.add_zero, Int.zero_add]
  have key : P1 u * P2 v * (K * K) = f x * f y * (W1 * W2) := by
    have l : P1 u * P2 v * (K * K) = (P1 u * K) * (P2 v * K) := by ac_rfl
    have r : f x * f y * (W1 * W2) = (f x * W1) * (f y * W2) := by ac_rfl
    rw [l, r, e1, e2]
  have a1 := fcA_cross (up := up) (Int.mul_nonneg (F2 u u0 u8) (G2 v v0 v8)) (Int.mul_pos F1 G1) (Int.mul_nonneg (hf x) (hf y)) (Int.mul_pos hK hK) key
  exact ⟨a1, by rw [Int.mul_comm (P2 v), Int.mul_comm (f y)]; exact a1⟩
