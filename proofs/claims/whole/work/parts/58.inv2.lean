/-! the invariant kept: put, open, lay (rows laid by wip/whole) -/
theorem rd8_set {l : List Int} {x y v : Int} (hl : l.length = 8) (x0 : 0 ≤ x) (x1 : x < 8) (y0 : 0 ≤ y) (y1 : y < 8) : rd8 (sI l x v) y = if y = x then v else rd8 l y := by
  rw [rd8_g y0 y1, rd8_g y0 y1, gI_set x0 (by omega) y0]
theorem Inv_put {n sz : Nat} {ch ro pl wi : List Int} (hI : Inv n sz ch ro pl wi) {x v : Int} (hx : 0 ≤ x ∧ x < sz) (hv : v = -9 ∨ (0 ≤ v ∧ v < n)) (hp : plO pl sz (inn v) = -1 ∨ plO pl sz (inn v) = x) : Inv n sz ch ro (sI pl x (inn v)) (List.replicate 8 8) := by
  have hn := hI.hn
  have hs := hI.hs
  have hl := hI.pll
  have hiv : inn v = 8 ∨ (0 ≤ inn v ∧ inn v < n) := by unfold inn; split <;> omega
  have hr := fun y a b => rd8_set (y := y) (v := inn v) hl hx.1 (by omega) a b
  have hno : inn v ≠ 8 → ∀ y : Int, 0 ≤ y → y < sz → rd8 pl y = inn v → y = x := fun h8 y y0 y1 e => by
    have := (plO_iff (by omega) hI.hdi h8 y0 y1).mp e
    omega
  refine ⟨hI.hn, hI.hs, hI.chl, hI.rol, by rw [sI_len]; exact hl, rep_len, hI.hch, hI.hcs, hI.hro, v8_set hI.hv (by omega) (by omega), fun y y0 y1 => ?_, fun y y0 y1 => ?_, fun a b a0 a1 b0 b1 e e8 => ?_, v8_rep, fun _ _ _ => rd8_rep, fun m _ _ h => absurd rd8_rep h⟩
  · have := hI.hpn y y0 y1
    rw [hr y y0 y1]
    split <;> omega
  · rw [gI_ne hx.1 (by omega) (by omega)]
    exact hI.hpt y y0 y1
  · rw [hr a a0 (by omega), hr b b0 (by omega)] at e
    rw [hr a a0 (by omega)] at e8
    by_cases c1 : a = x
    · rw [if_pos c1] at e e8
      by_cases c2 : b = x
      · omega
      · rw [if_neg c2] at e
        have := hno e8 b b0 b1 e.symm
        omega
    · rw [if_neg c1] at e e8
      by_cases c2 : b = x
      · rw [if_pos c2] at e
        have := hno (by omega) a a0 a1 e
        omega
      · rw [if_neg c2] at e
        exact hI.hdi a b a0 a1 b0 b1 e e8
theorem upW_or {sz : Int} (hs : sz ≤ 8) : ∀ (f : Nat) (j : Int) (wi : List Int) (m : Int), wi.length = 8 → 0 ≤ m → m < 8 → rd8 (upW sz f j wi) m = 8 ∨ rd8 (upW sz f j wi) m = rd8 wi m
  | 0, _, _, _, _, _, _ => Or.inr rfl
  | f + 1, j, wi, m, hl, m0, m1 => by
    unfold upW
    split
    · rename_i hj
      have ih := upW_or hs f ((sz + j) / 2) (sI wi j 8) m (by rw [sI_len]; exact hl) m0 m1
      have e := rd8_set (l := wi) (x := j) (y := m) (v := 8) hl hj.1 (by omega) m0 m1
      rcases ih with h | h
      · exact Or.inl h
      · by_cases c : m = j
        · rw [if_pos c] at e; exact Or.inl (h.trans e)
        · rw [if_neg c] at e; exact Or.inr (h.trans e)
    · exact Or.inr rfl
theorem Inv_open {n sz : Nat} {ch ro pl wi : List Int} (hI : Inv n sz ch ro pl wi) (f : Nat) (j : Int) : Inv n sz ch ro pl (upW sz f j wi) := by
  have hs := hI.hs
  refine ⟨hI.hn, hI.hs, hI.chl, hI.rol, hI.pll, by rw [upW_len]; exact hI.wil, hI.hch, hI.hcs, hI.hro, hI.hv, hI.hpn, hI.hpt, hI.hdi, v8_upW _ _ _ hI.hwv, tl_upW (by omega) _ _ _ hI.hwt, fun m m0 m1 h => ?_⟩
  have e := (upW_or (by omega : (sz : Int) ≤ 8) f j wi m hI.wil m0 (by omega)).resolve_left h
  rw [e] at h ⊢
  exact hI.hwg m m0 m1 h
theorem Inv_lay {n sz : Nat} {ch ro pl wi : List Int} (hI : Inv n sz ch ro pl wi) {i : Int} (i0 : 0 ≤ i) (i1 : i < ((rowsO n sz ro).length : Nat)) : Inv n sz ch ro (lay8 (drA (rowsO n sz ro) i) sz) (List.replicate 8 8) := by
  have hn := hI.hn
  have hs := hI.hs
  obtain ⟨g1, g2, g3, g4⟩ := drG (ro := ro) hn.2 (by omega : sz ≤ 8) i0 i1
  have hr : ∀ x : Int, 0 ≤ x → x < sz → rd8 (lay8 (drA (rowsO n sz ro) i) sz) x = drA (rowsO n sz ro) i x := fun x x0 x1 => lay8_rd x0 x1 (by omega)
  have ht : ∀ y : Int, sz ≤ y → y < 8 → gI (lay8 (drA (rowsO n sz ro) i) sz) y = 8 := fun y y0 y1 => by
    obtain ⟨z, rfl⟩ := Int.eq_ofNat_of_zero_le (by omega : 0 ≤ y)
    unfold lay8 gI
    rw [Int.toNat_natCast, List.getD_eq_getElem?_getD, List.getElem?_map, List.getElem?_range (by omega)]
    exact if_neg (by omega)
  have hb : ∀ x : Int, 0 ≤ x → x < sz → 0 ≤ drA (rowsO n sz ro) i x ∧ (drA (rowsO n sz ro) i x < n ∨ drA (rowsO n sz ro) i x = 8) := fun x x0 x1 => g1 x x0 (by omega)
  have hv : v8 (lay8 (drA (rowsO n sz ro) i) sz) := v8_out (fun x hx => by
    rw [lay8_len] at hx
    by_cases c : (x : Int) < sz
    · have := hb x (by omega) c
      rw [← rd8_g (by omega) (by omega), hr x (by omega) c]
      omega
    · rw [ht x (by omega) (by omega)]
      exact ⟨by decide, by decide⟩)
  refine ⟨hI.hn, hI.hs, hI.chl, hI.rol, lay8_len _ _, rep_len, hI.hch, hI.hcs, hI.hro, hv, fun y y0 y1 => ?_, ht, fun a b a0 a1 b0 b1 e e8 => ?_, v8_rep, fun _ _ _ => rd8_rep, fun m _ _ h => absurd rd8_rep h⟩
  · by_cases c : y < sz
    · have := hb y y0 c
      rw [hr y y0 c]
      omega
    · rw [rd8_g y0 y1, ht y (by omega) y1]
      exact Or.inl rfl
  · rw [hr a a0 a1, hr b b0 b1] at e
    rw [hr a a0 a1] at e8
    exact g2 a b a0 a1 b0 b1 e e8
