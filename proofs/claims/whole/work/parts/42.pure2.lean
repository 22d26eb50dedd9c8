/-! what spread leaves, by the odds (rows laid by wip/whole) -/
abbrev hfA (sz m : Int) : Int := p2A (rdO sz m - 1)
abbrev fpO (sz m : Int) : Int := fpA sz m (rdO sz m)
theorem ix2 {sz m : Int} (hs : sz = 2 ∨ sz = 4 ∨ sz = 8) (h0 : 0 ≤ m) (h1 : m < sz - 1) : (1 ≤ hfA sz m ∧ 0 ≤ fpO sz m ∧ fpO sz m + 2 * hfA sz m ≤ sz ∧ 1 ≤ rdO sz m ∧ rdO sz m ≤ 3 ∧ rdO sz m ≤ lrA sz ∧ p2A (rdO sz m) = 2 * hfA sz m) ∧ (2 * m < sz → rdO sz m = 1 ∧ fpO sz m = 2 * m ∧ hfA sz m = 1 ∧ 2 * m + 1 < sz) ∧ (¬ 2 * m < sz → rdO sz (2 * m - sz) = rdO sz m - 1 ∧ fpO sz (2 * m - sz) = fpO sz m ∧ rdO sz (2 * m + 1 - sz) = rdO sz m - 1 ∧ fpO sz (2 * m + 1 - sz) = fpO sz m + hfA sz m ∧ 2 * hfA sz (2 * m - sz) = hfA sz m ∧ 2 * hfA sz (2 * m + 1 - sz) = hfA sz m ∧ 2 * m + 1 - sz < m) ∧ (∀ x : Nat, x < 8 → fpO sz m ≤ (x : Int) → (x : Int) < fpO sz m + 2 * hfA sz m → fmA sz (rdO sz m) + (x : Int) / p2A (rdO sz m) = m ∧ (x : Int) / p2A (rdO sz m) * p2A (rdO sz m) = fpO sz m) := by
  rcases (show (sz = 2 ∧ m = 0) ∨ (sz = 4 ∧ (m = 0 ∨ m = 1 ∨ m = 2)) ∨ (sz = 8 ∧ (m = 0 ∨ m = 1 ∨ m = 2 ∨ m = 3 ∨ m = 4 ∨ m = 5 ∨ m = 6)) by omega) with ⟨rfl, rfl⟩ | ⟨rfl, rfl | rfl | rfl⟩ | ⟨rfl, rfl | rfl | rfl | rfl | rfl | rfl | rfl⟩ <;> decide
/-- players stand at one place each -/
def DisG (sz : Int) (pl : List Int) : Prop := ∀ x y : Int, 0 ≤ x → x < sz → 0 ≤ y → y < sz → rd8 pl x = rd8 pl y → rd8 pl x ≠ 8 → x = y
/-- a decided match has players on both sides, and its winner below it -/
def WiG (sz : Int) (pl wi : List Int) : Prop := ∀ m : Int, 0 ≤ m → m < sz - 1 → rd8 wi m ≠ 8 → (∃ x, fpO sz m ≤ x ∧ x < fpO sz m + 2 * hfA sz m ∧ rd8 pl x = rd8 wi m) ∧ (∃ x, fpO sz m ≤ x ∧ x < fpO sz m + hfA sz m ∧ rd8 pl x ≠ 8) ∧ (∃ x, fpO sz m + hfA sz m ≤ x ∧ x < fpO sz m + 2 * hfA sz m ∧ rd8 pl x ≠ 8)
def NdAll (pl wi ch lf rt ws : List Int) (sz m : Int) : Prop := NdOk pl (odR pl wi ch sz (rdO sz m - 1).toNat) (fpO sz m) (hfA sz m) (gI lf m).toNat ∧ NdOk pl (odR pl wi ch sz (rdO sz m - 1).toNat) (fpO sz m + hfA sz m) (hfA sz m) (gI rt m).toNat ∧ NdOk pl (odR pl wi ch sz (rdO sz m).toNat) (fpO sz m) (2 * hfA sz m) (gI ws m).toNat
theorem rd8_g {l : List Int} {x : Int} (h0 : 0 ≤ x) (h1 : x < 8) : rd8 l x = gI l x := by unfold rd8; rw [if_pos ⟨h0, h1⟩]
theorem spw_nd {sz : Int} {pl wi wm ch lf rt ws : List Int} (hs : sz = 2 ∨ sz = 4 ∨ sz = 8) (hv : v8 pl) (hch : chB ch) (hcs : chS ch) (hdi : DisG sz pl) (hwv : v8 wi) (hwg : WiG sz pl wi) (hwm : WmO wi wm) (hsp : SpW sz ch pl wm lf rt ws (sz - 1)) : ∀ (k : Nat) (m : Int), m.toNat < k → 0 ≤ m → m < sz - 1 → NdAll pl wi ch lf rt ws sz m
  | 0, _, h, _, _ => by omega
  | k + 1, m, hk, h0, h1 => by
    obtain ⟨⟨w1, F0, F2, r1, r3, rl, pw⟩, hA, hB, hx⟩ := ix2 hs h0 h1
    obtain ⟨s1, s2, s3, s4, s5, s6⟩ := hsp m h0 h1
    have ih := fun m2 a b c => spw_nd hs hv hch hcs hdi hwv hwg hwm hsp k m2 a b c
    have hLT : NdOk pl (odR pl wi ch sz (rdO sz m - 1).toNat) (fpO sz m) (hfA sz m) (gI lf m).toNat ∧ NdOk pl (odR pl wi ch sz (rdO sz m - 1).toNat) (fpO sz m + hfA sz m) (hfA sz m) (gI rt m).toNat := by
      by_cases c : 2 * m < sz
      · obtain ⟨a1, a2, a3, a4⟩ := hA c
        rw [s4, s5, a1, a2, a3]
        unfold chdM
        rw [if_pos c, if_pos a4, Int.toNat_natCast, Int.toNat_natCast, ← rd8_g (by omega : 0 ≤ 2 * m) (by omega), ← rd8_g (by omega : 0 ≤ 2 * m + 1) (by omega)]
        exact ⟨nd_place hv, nd_place hv⟩
      · obtain ⟨a1, a2, a3, a4, a5, a6, a7⟩ := hB c
        have i1 := (ih (2 * m - sz) (by omega) (by omega) (by omega)).2.2
        have i2 := (ih (2 * m + 1 - sz) (by omega) (by omega) (by omega)).2.2
        rw [s4, s5]
        unfold chdM
        rw [if_neg c, if_neg (by omega)]
        rw [a1, a2, a5] at i1
        rw [a3, a4, a6] at i2
        exact ⟨i1, i2⟩
    refine ⟨hLT.1, hLT.2, ?_⟩
    have hn := fun y => (odR_in (pl := pl) (wi := wi) (sz := sz) hch (rdO sz m - 1).toNat (by omega) y).1
    have hwn := rd8_in hwv m
    rw [s6, Int.toNat_natCast, hwm m h0 (by omega)]
    refine nd_step (r := rdO sz m) hv hch hcs hn (odR_8 hch _ (by omega)) r1 r3 rfl w1 (fun x x0 x1 => ?_) hLT.1 hLT.2 (fun x y x0 x1 y0 y1 => hdi x y (by omega) (by omega) (by omega) (by omega)) hwn (hwg m h0 h1)
    obtain ⟨z, rfl⟩ := Int.eq_ofNat_of_zero_le (by omega : 0 ≤ x)
    have hz := hx z (by omega) x0 x1
    obtain ⟨q, hq⟩ : ∃ q : Nat, rdO sz m = (q : Int) + 1 := ⟨(rdO sz m - 1).toNat, by omega⟩
    rw [hq] at hz
    rw [hq, show ((q : Int) + 1).toNat = q + 1 by omega, show ((q : Int) + 1 - 1).toNat = q by omega]
    show wmV _ _ _ (rd8 wi (fmA sz ((q : Int) + 1) + (z : Int) / p2A ((q : Int) + 1))) ((q : Int) + 1) ((z : Int) / p2A ((q : Int) + 1) * p2A ((q : Int) + 1)) (z : Int) = _
    rw [hz.1, hz.2]
/-- sums: order does not matter -/
theorem sumN_add (u v : Nat → Int) : ∀ m, sumN (fun i => u i + v i) m = sumN u m + sumN v m
  | 0 => rfl
  | m + 1 => by
    show sumN (fun i => u i + v i) m + (u m + v m) = sumN u m + u m + (sumN v m + v m)
    rw [sumN_add u v m]; omega
theorem sumN_zero : ∀ m, sumN (fun _ => 0) m = 0
  | 0 => rfl
  | m + 1 => by show sumN (fun _ => 0) m + 0 = 0; rw [sumN_zero m]; rfl
theorem sumN_swap (f : Nat → Nat → Int) (n : Nat) : ∀ m, sumN (fun i => sumN (fun j => f i j) n) m = sumN (fun j => sumN (fun i => f i j) m) n
  | 0 => by show (0 : Int) = sumN (fun _ => 0) n; rw [sumN_zero]
  | m + 1 => by
    show sumN (fun i => sumN (fun j => f i j) n) m + sumN (fun j => f m j) n = sumN (fun j => sumN (fun i => f i j) m + f m j) n
    rw [sumN_swap f n m, sumN_add]
theorem sumN_one {n k : Nat} (hk : k < n) {f : Nat → Int} (h : ∀ i, i < n → i ≠ k → f i = 0) : sumN f n = f k := by
  have e1 : sumN f n = sumN f (k + 1) := sumN_tail n (by omega) (fun i h1 h2 => h i h2 (by omega))
  have e2 : sumN f k = 0 := by
    have := sumN_tail (f := f) (a := 0) k (by omega) (fun i h1 h2 => h i (by omega) (by omega))
    exact this
  rw [e1]
  show sumN f k + f k = _
  rw [e2]; omega
theorem cnt_bij {P : Int → Prop} {pl : List Int} {n : Nat} {u : Nat} (hd : ∀ x y : Int, 0 ≤ x → x < n → 0 ≤ y → y < n → P x → P y → rd8 pl x = rd8 pl y → x = y) (hp : ∀ x : Int, 0 ≤ x → x < n → P x → 0 ≤ rd8 pl x ∧ rd8 pl x < 8) [∀ x, Decidable (P x)] (hu : ∀ p : Nat, p < 8 → (u.testBit p = true ↔ ∃ x : Int, 0 ≤ x ∧ x < n ∧ P x ∧ rd8 pl x = p)) : pcN u = sumN (fun i => bI (P i)) n := by
  have a1 : pcN u = sumN (fun p => sumN (fun i => bI (P i ∧ rd8 pl i = p)) n) 8 := sumN_congr 8 (fun p hp8 => by
    by_cases e : u.testBit p = true
    · obtain ⟨x, x0, x1, x2, x3⟩ := (hu p hp8).mp e
      obtain ⟨k, rfl⟩ := Int.eq_ofNat_of_zero_le x0
      rw [bI_t e, sumN_one (k := k) (by omega) (fun i hi hne => bI_f (fun z => hne (by have := hd i k (by omega) (by omega) (by omega) (by omega) z.1 x2 (by omega); omega))), bI_t ⟨x2, x3⟩]
    · rw [bI_f e]
      have : ∀ i, i < n → bI (P i ∧ rd8 pl i = p) = 0 := fun i hi => bI_f (fun z => e ((hu p hp8).mpr ⟨i, by omega, by omega, z.1, z.2⟩))
      exact (sumN_zero n).symm.trans (sumN_congr n (fun i hi => (this i hi).symm)))
  rw [a1, sumN_swap (fun p i => bI (P i ∧ rd8 pl i = p)) n 8]
  refine sumN_congr n (fun i hi => ?_)
  by_cases e : P i
  · have h8 := hp i (by omega) (by omega) e
    rw [bI_t e, sumN_one (k := (rd8 pl i).toNat) (by omega) (fun q hq hne => bI_f (fun z => hne (by omega))), bI_t ⟨e, by omega⟩]
  · rw [bI_f e]
    exact (sumN_congr 8 (fun q hq => bI_f (fun z => e z.1))).trans (sumN_zero 8)
/-- the place of a player -/
theorem plO_iff {pl : List Int} {sz : Nat} (h8 : sz ≤ 8) (hdi : DisG sz pl) {v : Int} (hv : v ≠ 8) {x : Int} (x0 : 0 ≤ x) (x1 : x < sz) : rd8 pl x = v ↔ plO pl sz v = x := by
  constructor
  · intro h
    exact plO_at hv x0 x1 h (fun y y0 y1 hy => hdi y x y0 y1 x0 x1 (hy.trans h.symm) (by rw [hy]; exact hv))
  · intro h
    have h1 := fndF_in (f := rd8 pl) (v := v) (n := (sz : Int).toNat) _ (Nat.le_refl _)
    unfold plO at h
    rw [if_neg hv] at h
    rw [← h]
    exact h1.2.2 (by omega)
theorem tb_cc {pl wi ch od lf rt ws : List Int} {sz : Nat} {m : Int} (hs : (sz : Int) = 2 ∨ (sz : Int) = 4 ∨ (sz : Int) = 8) (hdi : DisG sz pl) (h0 : 0 ≤ m) (h1 : m < (sz : Int) - 1) (hN : NdAll pl wi ch lf rt ws sz m) (hW : WgOk sz ch pl wi od) {p : Nat} (hp : p < 8) : ((gI lf m).toNat ||| (gI rt m).toNat).testBit p = true ↔ ccA od sz m (plO pl sz p) := by
  obtain ⟨⟨w1, F0, F2, r1, r3, rl, pw⟩, -, -, -⟩ := ix2 hs h0 h1
  obtain ⟨⟨-, l2, -⟩, ⟨-, t2, -⟩, -⟩ := hN
  have hpl := plO_in (pl := pl) (sz := sz) (v := p)
  rw [tb_lor, l2 p hp, t2 p hp]
  constructor
  · rintro (⟨x, x0, x1, x2, x3⟩ | ⟨x, x0, x1, x2, x3⟩) <;>
    · have e := (plO_iff (by omega) hdi (by omega : (p : Int) ≠ 8) (by omega) (by omega)).mp x2
      rw [e]
      exact ⟨by show fpO sz m ≤ x; omega, by show x < fpO sz m + p2A (rdO sz m); omega, by rw [hW.at (by omega) (by omega) (by omega) (by omega)]; exact x3⟩
  · rintro ⟨c1, c2, c3⟩
    have c1 : fpO sz m ≤ plO pl sz p := c1
    have c2 : plO pl sz p < fpO sz m + p2A (rdO sz m) := c2
    have e := (plO_iff (by omega) hdi (by omega : (p : Int) ≠ 8) (by omega) hpl.2).mpr rfl
    rw [hW.at (by omega) (by omega) (by omega) hpl.2] at c3
    by_cases q : plO pl sz p < fpO sz m + hfA sz m
    · exact Or.inl ⟨_, c1, q, e, c3⟩
    · exact Or.inr ⟨_, by omega, by omega, e, c3⟩
theorem pc_cm {pl wi ch od lf rt ws : List Int} {sz : Nat} {m : Int} (hs : (sz : Int) = 2 ∨ (sz : Int) = 4 ∨ (sz : Int) = 8) (hv : v8 pl) (hch : chB ch) (hdi : DisG sz pl) (h0 : 0 ≤ m) (h1 : m < (sz : Int) - 1) (hN : NdAll pl wi ch lf rt ws sz m) (hW : WgOk sz ch pl wi od) : pcN ((gI lf m).toNat ||| (gI rt m).toNat) = cmA od sz m := by
  obtain ⟨⟨w1, F0, F2, r1, r3, rl, pw⟩, -, -, -⟩ := ix2 hs h0 h1
  have hne : ∀ x : Int, 0 ≤ x → x < sz → ccA od sz m x → rd8 pl x ≠ 8 := fun x x0 x1 z => by
    have c3 := z.2.2
    rw [hW.at (by omega) (by omega) x0 x1] at c3
    exact odR_8 hch _ (by omega) x c3
  exact cnt_bij (P := fun x => ccA od sz m x) (pl := pl) (n := sz) (fun x y x0 x1 y0 y1 px py e => hdi x y x0 x1 y0 y1 e (hne x x0 x1 px)) (fun x x0 x1 px => by have := rd8_in hv x; have := hne x x0 x1 px; omega) (fun p hp => by
    rw [tb_cc hs hdi h0 h1 hN hW hp]
    have hpl := plO_in (pl := pl) (sz := sz) (v := p)
    constructor
    · intro z
      have c1 : fpO sz m ≤ plO pl sz p := z.1
      exact ⟨_, by omega, hpl.2, z, (plO_iff (by omega) hdi (by omega : (p : Int) ≠ 8) (by omega) hpl.2).mpr rfl⟩
    · rintro ⟨x, x0, x1, x2, x3⟩
      rw [(plO_iff (by omega) hdi (by omega : (p : Int) ≠ 8) x0 x1).mp x3]
      exact x2)
theorem top_ix {sz : Int} (hs : sz = 2 ∨ sz = 4 ∨ sz = 8) : rdO sz (sz - 2) = lrA sz ∧ fpO sz (sz - 2) = 0 ∧ 2 * hfA sz (sz - 2) = sz := by rcases hs with rfl | rfl | rfl <;> decide
theorem tb_top {pl wi ch od lf rt ws : List Int} {sz : Nat} (hs : (sz : Int) = 2 ∨ (sz : Int) = 4 ∨ (sz : Int) = 8) (hdi : DisG sz pl) (hN : NdAll pl wi ch lf rt ws sz ((sz : Int) - 2)) (hW : WgOk sz ch pl wi od) {p : Nat} (hp : p < 8) : (gI ws ((sz : Int) - 2)).toNat.testBit p = true ↔ 0 < odA od (lrA sz) (plO pl sz p) := by
  obtain ⟨-, -, -, t2, -⟩ := hN
  obtain ⟨i1, i2, i3⟩ := top_ix hs
  have hlr := lrA_in hs
  have hpl := plO_in (pl := pl) (sz := sz) (v := p)
  rw [t2 p hp, i1, i2, i3]
  constructor
  · rintro ⟨x, x0, x1, x2, x3⟩
    rw [(plO_iff (by omega) hdi (by omega : (p : Int) ≠ 8) x0 (by omega)).mp x2, hW.at (by omega) (by omega) x0 (by omega)]
    exact x3
  · intro z
    by_cases q : plO pl sz p = -1
    · rw [q] at z
      unfold odA at z
      rw [if_neg (by omega)] at z
      exact absurd z (by decide)
    · rw [hW.at (by omega) (by omega) (by omega) hpl.2] at z
      exact ⟨_, by omega, by omega, (plO_iff (by omega) hdi (by omega : (p : Int) ≠ 8) (by omega) hpl.2).mpr rfl, z⟩
theorem pc_top {pl wi ch od lf rt ws : List Int} {sz : Nat} (hs : (sz : Int) = 2 ∨ (sz : Int) = 4 ∨ (sz : Int) = 8) (hv : v8 pl) (hch : chB ch) (hdi : DisG sz pl) (hN : NdAll pl wi ch lf rt ws sz ((sz : Int) - 2)) (hW : WgOk sz ch pl wi od) : pcN (gI ws ((sz : Int) - 2)).toNat = pwA od sz := by
  have hlr := lrA_in hs
  have hne : ∀ x : Int, 0 ≤ x → x < sz → 0 < odA od (lrA sz) x → rd8 pl x ≠ 8 := fun x x0 x1 z => by
    rw [hW.at (by omega) (by omega) x0 x1] at z
    exact odR_8 hch _ (by omega) x z
  exact cnt_bij (P := fun x => 0 < odA od (lrA sz) x) (pl := pl) (n := sz) (fun x y x0 x1 y0 y1 px py e => hdi x y x0 x1 y0 y1 e (hne x x0 x1 px)) (fun x x0 x1 px => by have := rd8_in hv x; have := hne x x0 x1 px; omega) (fun p hp => by
    rw [tb_top hs hdi hN hW hp]
    have hpl := plO_in (pl := pl) (sz := sz) (v := p)
    constructor
    · intro z
      by_cases q : plO pl sz p = -1
      · rw [q] at z
        unfold odA at z
        rw [if_neg (by omega)] at z
        exact absurd z (by decide)
      · exact ⟨_, by omega, hpl.2, z, (plO_iff (by omega) hdi (by omega : (p : Int) ≠ 8) (by omega) hpl.2).mpr rfl⟩
    · rintro ⟨x, x0, x1, x2, x3⟩
      rw [(plO_iff (by omega) hdi (by omega : (p : Int) ≠ 8) x0 x1).mp x3]
      exact x2)
/-- the model's kind of a match -/
def srM (l t w : Int) : Int := if l = 0 ∧ t = 0 then 0 else if l = 0 ∨ t = 0 then 1 else if w ≠ -9 then 3 else 2
theorem sr_kd {pl wi wm ch lf rt ws : List Int} {sz m : Int} (hs : sz = 2 ∨ sz = 4 ∨ sz = 8) (hwv : v8 wi) (hwm : WmO wi wm) (h0 : 0 ≤ m) (h1 : m < sz - 1) (hN : NdAll pl wi ch lf rt ws sz m) (k1 : mk8 (gI lf m)) (k2 : mk8 (gI rt m)) : srM (gI lf m) (gI rt m) (gI wm m) = kdA pl wi sz m := by
  obtain ⟨⟨w1, F0, F2, r1, r3, rl, pw⟩, -, -, -⟩ := ix2 hs h0 h1
  obtain ⟨⟨-, -, l3⟩, ⟨-, -, t3⟩, -⟩ := hN
  have hw := rd8_in hwv m
  have ht := tld_9 hw.1 hw.2
  have a1 : gI lf m = 0 ↔ cnt8 pl (fpO sz m) (fpO sz m + hfA sz m) = 0 := by rw [cnt8_z, ← l3]; omega
  have a2 : gI rt m = 0 ↔ cnt8 pl (fpO sz m + hfA sz m) (fpO sz m + p2A (rdO sz m)) = 0 := by
    rw [cnt8_z, show fpO sz m + p2A (rdO sz m) = fpO sz m + hfA sz m + hfA sz m by omega, ← t3]; omega
  unfold srM kdA
  rw [hwm m h0 (by omega)]
  show _ = if cnt8 pl (fpO sz m) (fpO sz m + hfA sz m) = 0 ∧ cnt8 pl (fpO sz m + hfA sz m) (fpO sz m + p2A (rdO sz m)) = 0 then (0 : Int) else if cnt8 pl (fpO sz m) (fpO sz m + hfA sz m) = 0 ∨ cnt8 pl (fpO sz m + hfA sz m) (fpO sz m + p2A (rdO sz m)) = 0 then 1 else if rd8 wi m = 8 then 2 else 3
  clear l3 t3
  generalize cnt8 pl (fpO sz m) (fpO sz m + hfA sz m) = A at *
  generalize cnt8 pl (fpO sz m + hfA sz m) (fpO sz m + p2A (rdO sz m)) = B at *
  clear hwm hwv w1 F0 F2 r1 r3 rl pw k1 k2 h0 h1 hs
  (repeat' split) <;> omega
