/-! the invariant: new, and kept (players, chance, apart, cup) (rows laid by wip/whole) -/
theorem rd8_rep {x : Int} : rd8 (List.replicate 8 8) x = 8 := by
  unfold rd8
  split
  · rename_i h; exact gI_rpl h.1 (by omega)
  · rfl
theorem v8_rep : v8 (List.replicate 8 8) := v8_out (fun x hx => by
  rw [List.length_replicate] at hx
  rw [gI_rpl (by omega) (by omega)]
  exact ⟨by decide, by decide⟩)
theorem chB_rep : chB (List.replicate 64 6) := fun i => by
  unfold gI
  rw [List.getD_eq_getElem?_getD, List.getElem?_replicate]
  split
  · exact ⟨by decide, by decide⟩
  · exact ⟨by decide, by decide⟩
/-- an empty cup keeps what is asked of places and winners -/
theorem Inv_mk {n sz : Nat} {ch ro : List Int} (hn : 2 ≤ n ∧ n ≤ 8) (hs : (sz : Int) = 2 ∨ (sz : Int) = 4 ∨ (sz : Int) = 8) (chl : ch.length = 64) (rol : ro.length = 64) (hch : chB ch) (hcs : chS ch) (hro : roS ro) : Inv n sz ch ro (List.replicate 8 8) (List.replicate 8 8) :=
  ⟨hn, hs, chl, rol, rep_len, rep_len, hch, hcs, hro, v8_rep, fun x _ _ => Or.inl rd8_rep, fun y y0 y1 => gI_rpl (by omega) (by omega), fun x y _ _ _ _ _ h => absurd rd8_rep h, v8_rep, fun x _ _ => rd8_rep, fun m _ _ h => absurd rd8_rep h⟩
theorem chS_rep : chS (List.replicate 64 6) := fun x y hx hy _ => by
  rw [gI_rpl (by omega) (by omega), gI_rpl (by omega) (by omega)]
  decide
theorem roS_rep : roS (List.replicate 64 1) := fun x y hx hy => by
  rw [gI_rpl (by omega) (by omega), gI_rpl (by omega) (by omega)]
  decide
theorem Inv_new {n sz : Nat} (hn : 2 ≤ n ∧ n ≤ 8) (hs : (sz : Int) = 2 ∨ (sz : Int) = 4 ∨ (sz : Int) = 8) : Inv n sz (List.replicate 64 6) (List.replicate 64 1) (List.replicate 8 8) (List.replicate 8 8) := Inv_mk hn hs List.length_replicate List.length_replicate chB_rep chS_rep roS_rep
theorem Inv_cup {n sz sz' : Nat} {ch ro pl wi : List Int} (hI : Inv n sz ch ro pl wi) (hs : (sz' : Int) = 2 ∨ (sz' : Int) = 4 ∨ (sz' : Int) = 8) : Inv n sz' ch ro (List.replicate 8 8) (List.replicate 8 8) := Inv_mk hI.hn hs hI.chl hI.rol hI.hch hI.hcs hI.hro
theorem gI_set {l : List Int} {x y v : Int} (h0 : 0 ≤ x) (h1 : x < l.length) (hy : 0 ≤ y) : gI (sI l x v) y = if y = x then v else gI l y := by
  split
  · rename_i e; rw [e]; exact gI_eq h0 h1
  · exact gI_ne h0 hy (by omega)
theorem Inv_chance {n sz : Nat} {ch ro pl wi : List Int} (hI : Inv n sz ch ro pl wi) {x y v : Int} (hx : 0 ≤ x ∧ x < n) (hy : 0 ≤ y ∧ y < n) (hv : 0 ≤ v ∧ v ≤ 12) (hne : x ≠ y) : Inv n sz (sI (sI ch (x * 8 + y) v) (y * 8 + x) (12 - v)) ro pl wi := by
  have hn := hI.hn
  have hl := hI.chl
  have hg : ∀ t : Int, 0 ≤ t → gI (sI (sI ch (x * 8 + y) v) (y * 8 + x) (12 - v)) t = if t = y * 8 + x then 12 - v else if t = x * 8 + y then v else gI ch t := fun t t0 => by
    rw [gI_set (by omega) (by rw [sI_len]; omega) t0, gI_set (by omega) (by omega) t0]
  refine ⟨hI.hn, hI.hs, by rw [sI_len, sI_len]; exact hl, hI.rol, hI.pll, hI.wil, fun i => ?_, fun a b ha hb hab => ?_, hI.hro, hI.hv, hI.hpn, hI.hpt, hI.hdi, hI.hwv, hI.hwt, hI.hwg⟩
  · by_cases i0 : 0 ≤ i
    · have := hI.hch i
      rw [hg i i0]
      (repeat' split) <;> omega
    · have e := hg 0 (Int.le_refl 0)
      have z : gI (sI (sI ch (x * 8 + y) v) (y * 8 + x) (12 - v)) i = gI (sI (sI ch (x * 8 + y) v) (y * 8 + x) (12 - v)) 0 := by
        unfold gI; rw [show i.toNat = 0 by omega]; rfl
      have := hI.hch 0
      rw [z, e]
      (repeat' split) <;> omega
  · have h12 := hI.hcs a b ha hb hab
    rw [hg _ (by omega), hg _ (by omega)]
    (repeat' split) <;> omega
theorem Inv_apart {n sz : Nat} {ch ro pl wi : List Int} (hI : Inv n sz ch ro pl wi) {x y v : Int} (hx : 0 ≤ x ∧ x < n) (hy : 0 ≤ y ∧ y < n) (hv : 1 ≤ v ∧ v ≤ 3) (hne : x ≠ y) : Inv n sz ch (sI (sI ro (x * 8 + y) v) (y * 8 + x) v) pl wi := by
  have hn := hI.hn
  have hl := hI.rol
  have hg : ∀ t : Int, 0 ≤ t → gI (sI (sI ro (x * 8 + y) v) (y * 8 + x) v) t = if t = y * 8 + x then v else if t = x * 8 + y then v else gI ro t := fun t t0 => by
    rw [gI_set (by omega) (by rw [sI_len]; omega) t0, gI_set (by omega) (by omega) t0]
  refine ⟨hI.hn, hI.hs, hI.chl, by rw [sI_len, sI_len]; exact hl, hI.pll, hI.wil, hI.hch, hI.hcs, fun a b ha hb => ?_, hI.hv, hI.hpn, hI.hpt, hI.hdi, hI.hwv, hI.hwt, hI.hwg⟩
  have h12 := hI.hro a b ha hb
  rw [hg _ (by omega), hg _ (by omega)]
  (repeat' split) <;> omega
