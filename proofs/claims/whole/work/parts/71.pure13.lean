/-! the whole of a draw (rows laid by wip/whole) -/
theorem sumN_split (f : Nat → Int) (m : Nat) : ∀ k, sumN f (m + k) = sumN f m + sumN (fun i => f (m + i)) k
  | 0 => (Int.add_zero _).symm
  | k + 1 => by
    show sumN f (m + k) + f (m + k) = sumN f m + (sumN (fun i => f (m + i)) k + f (m + k))
    rw [sumN_split f m k, Int.add_assoc]
theorem cnt8_add {l : List Int} {a b c : Int} (h1 : a ≤ b) (h2 : b ≤ c) : cnt8 l a c = cnt8 l a b + cnt8 l b c := by
  unfold cnt8
  rw [show (c - a).toNat = (b - a).toNat + (c - b).toNat by omega, sumN_split]
  congr 1
  refine sumN_congr _ (fun i hi => ?_)
  rw [show a + (((b - a).toNat + i : Nat) : Int) = b + (i : Int) by omega]
/-- 12 to the number of matches that so many players play -/
def w12 (c : Int) : Int := if c ≤ 0 then 1 else 12 ^ (c - 1).toNat
theorem w12_add {a b : Int} (h1 : 1 ≤ a) (h2 : 1 ≤ b) : w12 (a + b) = 12 * w12 a * w12 b := by
  unfold w12
  rw [if_neg (by omega), if_neg (by omega), if_neg (by omega), show (a + b - 1).toNat = 1 + (a - 1).toNat + (b - 1).toNat by omega, Int.pow_add, Int.pow_add]
  rfl
theorem w12_in : ∀ n : Nat, n < 9 → 1 ≤ w12 n ∧ w12 n ≤ 35831808 := by decide
theorem w12_1 {c : Int} (h0 : 0 ≤ c) (h1 : c ≤ 1) : w12 c = 1 := by
  rcases (show c = 0 ∨ c = 1 by omega) with rfl | rfl <;> decide
theorem wk_whole {sz : Int} {pl wi wm ch rw pt wh : List Int} (hs : sz = 2 ∨ sz = 4 ∨ sz = 8) (hv : v8 pl) (hch : chB ch) (hcs : chS ch) (hdi : DisG sz pl) (hwv : v8 wi) (hwg : WiG sz pl wi) (hrw : ∀ x : Int, 0 ≤ x → x < sz → gI rw x = rd8 pl x) (hdc : ∀ m : Int, 0 ≤ m → m < sz - 1 → ((false = true ∧ gI wm m ≠ -9) ↔ rd8 wi m ≠ 8) ∧ (rd8 wi m ≠ 8 → gI wm m = rd8 wi m)) (hwk : ∀ m : Int, 0 ≤ m → m < sz - 1 → WkAt false sz ch wm rw pt wh m) : ∀ (k : Nat) (m : Int), m.toNat < k → 0 ≤ m → m < sz - 1 → gI wh m = w12 (cnt8 pl (fpO sz m) (fpO sz m + 2 * hfA sz m))
  | 0, _, h, _, _ => by omega
  | k + 1, m, hk, h0, h1 => by
    obtain ⟨⟨w1, F0, F2, r1, r3, rl, pw⟩, hA, hB, hx⟩ := ix2 hs h0 h1
    have ih := fun m2 a b c => wk_whole hs hv hch hcs hdi hwv hwg hrw hdc hwk k m2 a b c
    obtain ⟨l, t, u, hl, ht, -⟩ := nd_ex hs hv hch hcs hdi hwv hwg (m.toNat + 1) m (Nat.lt_succ_self _) h0 h1
    have hF := wk_fr hs hv hch hcs hdi hwv hwg hrw hdc hwk (m.toNat + 1) m (Nat.lt_succ_self _) h0 h1
    have h8 := odR_8 (pl := pl) (wi := wi) (sz := sz) hch (rdO sz m - 1).toNat (by omega)
    have hK := pts_pos (r := rdO sz m - 1) (by omega) (by omega)
    have ea : cnt8 pl (fpO sz m) (fpO sz m + 2 * hfA sz m) = cnt8 pl (fpO sz m) (fpO sz m + hfA sz m) + cnt8 pl (fpO sz m + hfA sz m) (fpO sz m + 2 * hfA sz m) := cnt8_add (by omega) (by omega)
    have e12 : ndW sz wh (2 * m) = w12 (cnt8 pl (fpO sz m) (fpO sz m + hfA sz m)) ∧ ndW sz wh (2 * m + 1) = w12 (cnt8 pl (fpO sz m + hfA sz m) (fpO sz m + 2 * hfA sz m)) := by
      by_cases c : 2 * m < sz
      · obtain ⟨a1, a2, a3, a4⟩ := hA c
        have i1 := cnt8_in pl (fpO sz m) (fpO sz m + hfA sz m)
        have i2 := cnt8_in pl (fpO sz m + hfA sz m) (fpO sz m + 2 * hfA sz m)
        rw [w12_1 i1.1 (by omega), w12_1 i2.1 (by omega)]
        unfold ndW
        exact ⟨if_pos c, if_pos a4⟩
      · obtain ⟨a1, a2, a3, a4, a5, a6, a7⟩ := hB c
        have i1 := ih (2 * m - sz) (by omega) (by omega) (by omega)
        have i2 := ih (2 * m + 1 - sz) (by omega) (by omega) (by omega)
        rw [a2, a5] at i1
        rw [a4, a6, show fpO sz m + hfA sz m + hfA sz m = fpO sz m + 2 * hfA sz m by omega] at i2
        unfold ndW
        rw [if_neg c, if_neg (by omega)]
        exact ⟨i1, i2⟩
    have b1 := anF_fr hv h8 hK hl hF.1
    have b2 := anF_fr hv h8 hK ht hF.2.1
    rw [show fpO sz m + hfA sz m + hfA sz m = fpO sz m + 2 * hfA sz m by omega] at b2
    obtain ⟨k1, -⟩ := hwk m h0 h1
    have n1 : (∃ x, fpO sz m ≤ x ∧ x < fpO sz m + hfA sz m ∧ rd8 pl x ≠ 8) ↔ ¬ cnt8 pl (fpO sz m) (fpO sz m + hfA sz m) = 0 := ⟨fun ⟨x, x0, x1, x2⟩ h => x2 (cnt8_z.mp h x x0 x1), cnt8_ex⟩
    have n2 : (∃ x, fpO sz m + hfA sz m ≤ x ∧ x < fpO sz m + 2 * hfA sz m ∧ rd8 pl x ≠ 8) ↔ ¬ cnt8 pl (fpO sz m + hfA sz m) (fpO sz m + 2 * hfA sz m) = 0 := ⟨fun ⟨x, x0, x1, x2⟩ h => x2 (cnt8_z.mp h x x0 x1), cnt8_ex⟩
    rw [k1, e12.1, e12.2, ea]
    have p1 := (cnt8_in pl (fpO sz m) (fpO sz m + hfA sz m)).1
    have p2 := (cnt8_in pl (fpO sz m + hfA sz m) (fpO sz m + 2 * hfA sz m)).1
    unfold frW
    rw [if_neg (fun z => absurd z.1 (by decide))]
    by_cases c1 : cnt8 pl (fpO sz m) (fpO sz m + hfA sz m) = 0
    · rw [if_pos (fun z => (n1.mp (b1.mp z)) c1), c1, Int.zero_add]
    · rw [if_neg (fun z => z (b1.mpr (n1.mpr c1)))]
      by_cases c2 : cnt8 pl (fpO sz m + hfA sz m) (fpO sz m + 2 * hfA sz m) = 0
      · rw [if_pos (fun z => (n2.mp (b2.mp z)) c2), c2, Int.add_zero]
      · rw [if_neg (fun z => z (b2.mpr (n2.mpr c2)))]
        clear b1 b2 n1 n2
        exact (w12_add (by omega) (by omega)).symm
/-- the last match -/
theorem fin_ix {sz : Int} (hs : sz = 2 ∨ sz = 4 ∨ sz = 8) : rdO sz (sz - 2) = lrA sz ∧ fpO sz (sz - 2) = 0 ∧ 2 * hfA sz (sz - 2) = sz := by
  rcases hs with rfl | rfl | rfl <;> decide
/-- a draw, worked: each player's part of the whole says the class' odds -/
theorem wk_draw {n sz : Nat} {ch ro pl wi wm rw pt wh : List Int} (hI : Inv n sz ch ro pl wi) {i : Int} (i0 : 0 ≤ i) (i1 : i < ((rowsO n sz ro).length : Nat)) (hr : ∀ x : Int, 0 ≤ x → x < sz → gI rw x = drA (rowsO n sz ro) i x) (hw : WkI false sz ch wm rw pt wh (sz - 1)) : gI wh ((sz : Int) - 2) = w12 n ∧ ∀ v : Int, 0 ≤ v → v < n → (0 ≤ gI pt (8 * ((sz : Int) - 2) + v) ∧ gI pt (8 * ((sz : Int) - 2) + v) ≤ 9618527719784448) ∧ gI pt (8 * ((sz : Int) - 2) + v) * pts (lrA sz) = wnA n sz ro ch i v * w12 n := by
  have hI2 := Inv_lay hI i0 i1
  have hn := hI.hn
  have hs := hI.hs
  have hrw : ∀ x : Int, 0 ≤ x → x < sz → gI rw x = rd8 (lay8 (drA (rowsO n sz ro) i) sz) x := fun x x0 x1 => by rw [hr x x0 x1, lay8_rd x0 x1 (by omega)]
  have hdc : ∀ m : Int, 0 ≤ m → m < (sz : Int) - 1 → ((false = true ∧ gI wm m ≠ -9) ↔ rd8 (List.replicate 8 8) m ≠ 8) ∧ (rd8 (List.replicate 8 8) m ≠ 8 → gI wm m = rd8 (List.replicate 8 8) m) := fun m _ _ => ⟨⟨fun z => absurd z.1 (by decide), fun z => absurd rd8_rep z⟩, fun z => absurd rd8_rep z⟩
  have hwk : ∀ m : Int, 0 ≤ m → m < (sz : Int) - 1 → WkAt false sz ch wm rw pt wh m := fun m a b => (hw m a b).1
  obtain ⟨f1, f2, f3⟩ := fin_ix hs
  have h1 := wk_whole hs hI2.hv hI2.hch hI2.hcs hI2.hdi hI2.hwv hI2.hwg hrw hdc hwk (((sz : Int) - 2).toNat + 1) ((sz : Int) - 2) (Nat.lt_succ_self _) (by omega) (by omega)
  have hF := (wk_fr hs hI2.hv hI2.hch hI2.hcs hI2.hdi hI2.hwv hI2.hwg hrw hdc hwk (((sz : Int) - 2).toNat + 1) ((sz : Int) - 2) (Nat.lt_succ_self _) (by omega) (by omega)).2.2
  obtain ⟨g1, g2, g3, g4⟩ := drG (ro := ro) (by omega : n ≤ 8) (by omega : sz ≤ 8) i0 i1
  have hall : ∀ v : Int, 0 ≤ v → v < n → ∃ x : Int, 0 ≤ x ∧ x < sz ∧ rd8 (lay8 (drA (rowsO n sz ro) i) sz) x = v := fun v v0 v1 => by
    obtain ⟨x, x0, x1, hx⟩ := g4 v v0 v1
    exact ⟨x, x0, x1, by rw [lay8_rd x0 x1 (by omega)]; exact hx⟩
  have hc := cnt_n (pl := lay8 (drA (rowsO n sz ro) i) sz) (by omega : n ≤ 8) (by omega : sz ≤ 8) (fun x x0 x1 => by
    have a := hI2.hpn x x0 (by omega)
    have b := rd8_in hI2.hv x
    omega) (fun x => rd8_in hI2.hv x) hI2.hdi (fun v hv => hall v (by omega) (by omega))
  rw [f2, Int.zero_add, f3, hc] at h1
  refine ⟨h1, fun v v0 v1 => ⟨?_, ?_⟩⟩
  · have b := (hw ((sz : Int) - 2) (by omega) (by omega)).2.2 v v0 (by omega)
    rw [f1] at b
    have : ptB (lrA sz) ≤ 9618527719784448 := by
      have l3 := lrA_in hs
      rcases (show lrA sz = 1 ∨ lrA sz = 2 ∨ lrA sz = 3 by omega) with e | e | e <;> rw [e] <;> decide
    exact ⟨b.1, Int.le_trans b.2 this⟩
  · rw [f1, f2, f3] at hF
    obtain ⟨-, -, F3, -⟩ := hF
    obtain ⟨x, x0, x1, hx⟩ := hall v v0 v1
    have e := F3 x x0 (by omega) (by omega)
    rw [hx, h1] at e
    have hp := (plO_iff (by omega : sz ≤ 8) hI2.hdi (by omega : v ≠ 8) x0 x1).mp hx
    unfold wnA
    rw [hp]
    exact e
