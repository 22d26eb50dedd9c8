/-! the draws in order: both searches find the same rows (rows laid by wip/whole) -/
def rngP (n sz : Nat) (f : Int → Int) : Prop := ∀ i : Nat, i < sz → 0 ≤ f i ∧ (f i < n ∨ f i = 8)
def cmn (n sz : Nat) (f : Int → Int) (i : Nat) : Prop := if f i = 8 then ecN f i < (sz : Int) - n else ∀ q : Nat, q < i → f q ≠ f i
def preF (f : Int → Int) (k : Nat) : List Int := (List.range k).map (fun i : Nat => f i)
theorem preF_s {f : Int → Int} {k : Nat} : preF f (k + 1) = preF f k ++ [f k] := by
  unfold preF
  rw [List.range_succ, List.map_append]
  rfl
theorem preF_len {f : Int → Int} {k : Nat} : (preF f k).length = k := by unfold preF; rw [List.length_map, List.length_range]
theorem preF_gI {f : Int → Int} {k i : Nat} (h : i < k) : gI (preF f k) i = f i := by
  unfold preF gI
  rw [List.getD_eq_getElem?_getD, List.getElem?_map, Int.toNat_natCast, List.getElem?_range h]
  rfl
theorem cm_row {n sz : Nat} {f : Int → Int} (h2 : 2 ≤ n) (hle : n ≤ sz) (h8 : sz ≤ 8) (hr : rngP n sz f) (hc : ∀ i : Nat, i < sz → cmn n sz f i) : ∃ j : Nat, j < sz ∧ f j = 0 := by
  have key : ∀ k : Nat, k ≤ sz → ∃ u : Nat, PreG n sz u (preF f k) ∧ (k : Int) - pcN u = ecN f k := by
    intro k
    induction k with
    | zero =>
      intro _
      refine ⟨0, PreG_0 hle, ?_⟩
      have : pcN 0 = 0 := by decide
      rw [this]
      rfl
    | succ k ih =>
      intro hk
      obtain ⟨u, hG, he⟩ := ih (by omega)
      have c := hc k (by omega)
      have r := hr k (by omega)
      have es : ecN f (k + 1) = ecN f k + bI (f k = 8) := rfl
      unfold cmn at c
      by_cases e : f k = 8
      · rw [if_pos e] at c
        rw [bI_t e] at es
        refine ⟨u, ?_, by omega⟩
        rw [preF_s, e]
        exact hG.gap (by rw [preF_len]; omega)
      · rw [if_neg e] at c
        rw [bI_f e] at es
        obtain ⟨p, hp⟩ := Int.eq_ofNat_of_zero_le r.1
        have ht : u.testBit p = false := by
          cases q : u.testBit p with
          | false => rfl
          | true =>
            obtain ⟨x, hx, hx2⟩ := (hG.2.2.2.1 p (by omega)).mp q
            rw [preF_len] at hx
            rw [preF_gI hx] at hx2
            exact absurd (hx2.trans hp.symm) (c x hx)
        refine ⟨u ||| 2 ^ p, ?_, by rw [pc_or u hG.1 p (by omega) ht]; omega⟩
        rw [preF_s, hp]
        exact hG.put (by omega) (by omega) ht
  obtain ⟨u, hG, -⟩ := key sz (Nat.le_refl _)
  obtain ⟨x, x0, x1, hx⟩ := (hG.row (by omega) h8 preF_len).2.2.2 0 (Int.le_refl 0) (by omega)
  obtain ⟨j, rfl⟩ := Int.eq_ofNat_of_zero_le x0
  refine ⟨j, by omega, ?_⟩
  rw [gI_app, if_pos (by rw [preF_len]; omega), preF_gI (by omega)] at hx
  exact hx
theorem cm_dis {n sz : Nat} {f : Int → Int} (hc : ∀ i : Nat, i < sz → cmn n sz f i) {a b : Nat} (hab : a < b) (hb : b < sz) (e : f a = f b) : f b = 8 := by
  have c := hc b hb
  unfold cmn at c
  by_cases e8 : f b = 8
  · exact e8
  · rw [if_neg e8] at c
    exact absurd e (c a hab)
theorem ko_hv2 {n : Nat} {f : Int → Int} (h2 : 2 ≤ n) (hle : n ≤ 2) (hr : rngP n 2 f) (hc : ∀ i : Nat, i < 2 → cmn n 2 f i) : (∀ i : Nat, i < 2 → hvB f (2 : Nat) i = true) ↔ (∀ i : Nat, i < 2 → f i = 8 ∨ koA f i (f i)) := by
  have r0 : 0 ≤ f 0 ∧ f 0 ≤ 8 := by have := hr 0 (by decide); have e : f ((0 : Nat) : Int) = f 0 := rfl; rw [e] at this; omega
  have r1 : 0 ≤ f 1 ∧ f 1 ≤ 8 := by have := hr 1 (by decide); have e : f ((1 : Nat) : Int) = f 1 := rfl; rw [e] at this; omega
  have d1 : f 0 = f 1 → f 1 = 8 := fun e => cm_dis hc (show 0 < 1 by decide) (by decide) e
  constructor
  · intro h
    have w1_1 : ¬ f 1 < f 0 := (hvB_iff.mp (h 1 (by decide))).1 (by decide)
    have l1 : f 0 ≤ f 1 := by omega
    clear w1_1
    have z0 : f 0 = 0 := by
      obtain ⟨j, hj, hz⟩ := cm_row h2 hle (by decide) hr hc
      clear d1
      rcases (show j = 0 ∨ j = 1 by omega) with rfl | rfl
      · have hz : f 0 = 0 := hz
        omega
      · have hz : f 1 = 0 := hz
        omega
    intro i hi
    rcases (show i = 0 ∨ i = 1 by omega) with rfl | rfl
    · exact Or.inr (Or.inl ⟨rfl, z0⟩)
    · by_cases e : f 1 = 8
      · exact Or.inl e
      · exact Or.inr (Or.inr ⟨by decide, show f 0 < f 1 by omega⟩)
  · intro h
    have k1 : f 1 = 8 ∨ f 0 < f 1 := (h 1 (by decide)).elim Or.inl (fun z => z.elim (fun y => absurd y.1 (by decide)) (fun y => Or.inr y.2))
    intro i hi
    rcases (show i = 0 ∨ i = 1 by omega) with rfl | rfl
    · exact hvB_iff.mpr ⟨fun c => absurd c (by decide), fun c => absurd c (by decide), fun c => absurd c (by decide)⟩
    · exact hvB_iff.mpr ⟨fun _ => (show ¬ f 1 < f 0 by omega), fun c => absurd c (by decide), fun c => absurd c (by decide)⟩
theorem ko_hv4 {n : Nat} {f : Int → Int} (h2 : 2 ≤ n) (hle : n ≤ 4) (hr : rngP n 4 f) (hc : ∀ i : Nat, i < 4 → cmn n 4 f i) : (∀ i : Nat, i < 4 → hvB f (4 : Nat) i = true) ↔ (∀ i : Nat, i < 4 → f i = 8 ∨ koA f i (f i)) := by
  have r0 : 0 ≤ f 0 ∧ f 0 ≤ 8 := by have := hr 0 (by decide); have e : f ((0 : Nat) : Int) = f 0 := rfl; rw [e] at this; omega
  have r1 : 0 ≤ f 1 ∧ f 1 ≤ 8 := by have := hr 1 (by decide); have e : f ((1 : Nat) : Int) = f 1 := rfl; rw [e] at this; omega
  have r2 : 0 ≤ f 2 ∧ f 2 ≤ 8 := by have := hr 2 (by decide); have e : f ((2 : Nat) : Int) = f 2 := rfl; rw [e] at this; omega
  have r3 : 0 ≤ f 3 ∧ f 3 ≤ 8 := by have := hr 3 (by decide); have e : f ((3 : Nat) : Int) = f 3 := rfl; rw [e] at this; omega
  have d1 : f 0 = f 1 → f 1 = 8 := fun e => cm_dis hc (show 0 < 1 by decide) (by decide) e
  have d2 : f 0 = f 2 → f 2 = 8 := fun e => cm_dis hc (show 0 < 2 by decide) (by decide) e
  have d3 : f 2 = f 3 → f 3 = 8 := fun e => cm_dis hc (show 2 < 3 by decide) (by decide) e
  constructor
  · intro h
    have w1_1 : ¬ f 1 < f 0 := (hvB_iff.mp (h 1 (by decide))).1 (by decide)
    have w1_3 : ¬ f 3 < f 2 := (hvB_iff.mp (h 3 (by decide))).1 (by decide)
    have w2_3 : ¬ (f 2 < f 0 ∨ (f 0 = f 2 ∧ f 3 < f 1)) := (hvB_iff.mp (h 3 (by decide))).2.1 (by decide)
    have l1 : f 0 ≤ f 1 := by clear w1_3 w2_3; omega
    have l2 : f 0 ≤ f 2 := by clear w1_1 w1_3; omega
    have l3 : f 2 ≤ f 3 := by clear w1_1 w2_3; omega
    clear w1_1 w1_3 w2_3
    have z0 : f 0 = 0 := by
      obtain ⟨j, hj, hz⟩ := cm_row h2 hle (by decide) hr hc
      clear d1 d2 d3
      rcases (show j = 0 ∨ j = 1 ∨ j = 2 ∨ j = 3 by omega) with rfl | rfl | rfl | rfl
      · have hz : f 0 = 0 := hz
        omega
      · have hz : f 1 = 0 := hz
        omega
      · have hz : f 2 = 0 := hz
        omega
      · have hz : f 3 = 0 := hz
        omega
    intro i hi
    rcases (show i = 0 ∨ i = 1 ∨ i = 2 ∨ i = 3 by omega) with rfl | rfl | rfl | rfl
    · exact Or.inr (Or.inl ⟨rfl, z0⟩)
    · by_cases e : f 1 = 8
      · exact Or.inl e
      · exact Or.inr (Or.inr ⟨by decide, show f 0 < f 1 by omega⟩)
    · by_cases e : f 2 = 8
      · exact Or.inl e
      · exact Or.inr (Or.inr ⟨by decide, show f 0 < f 2 by omega⟩)
    · by_cases e : f 3 = 8
      · exact Or.inl e
      · exact Or.inr (Or.inr ⟨by decide, show f 2 < f 3 by omega⟩)
  · intro h
    have k1 : f 1 = 8 ∨ f 0 < f 1 := (h 1 (by decide)).elim Or.inl (fun z => z.elim (fun y => absurd y.1 (by decide)) (fun y => Or.inr y.2))
    have k2 : f 2 = 8 ∨ f 0 < f 2 := (h 2 (by decide)).elim Or.inl (fun z => z.elim (fun y => absurd y.1 (by decide)) (fun y => Or.inr y.2))
    have k3 : f 3 = 8 ∨ f 2 < f 3 := (h 3 (by decide)).elim Or.inl (fun z => z.elim (fun y => absurd y.1 (by decide)) (fun y => Or.inr y.2))
    intro i hi
    rcases (show i = 0 ∨ i = 1 ∨ i = 2 ∨ i = 3 by omega) with rfl | rfl | rfl | rfl
    · exact hvB_iff.mpr ⟨fun c => absurd c (by decide), fun c => absurd c (by decide), fun c => absurd c (by decide)⟩
    · exact hvB_iff.mpr ⟨fun _ => (show ¬ f 1 < f 0 by omega), fun c => absurd c (by decide), fun c => absurd c (by decide)⟩
    · exact hvB_iff.mpr ⟨fun c => absurd c (by decide), fun c => absurd c (by decide), fun c => absurd c (by decide)⟩
    · exact hvB_iff.mpr ⟨fun _ => (show ¬ f 3 < f 2 by omega), fun _ => (show ¬ (f 2 < f 0 ∨ (f 0 = f 2 ∧ f 3 < f 1)) by omega), fun c => absurd c (by decide)⟩
theorem ko_hv8 {n : Nat} {f : Int → Int} (h2 : 2 ≤ n) (hle : n ≤ 8) (hr : rngP n 8 f) (hc : ∀ i : Nat, i < 8 → cmn n 8 f i) : (∀ i : Nat, i < 8 → hvB f (8 : Nat) i = true) ↔ (∀ i : Nat, i < 8 → f i = 8 ∨ koA f i (f i)) := by
  have r0 : 0 ≤ f 0 ∧ f 0 ≤ 8 := by have := hr 0 (by decide); have e : f ((0 : Nat) : Int) = f 0 := rfl; rw [e] at this; omega
  have r1 : 0 ≤ f 1 ∧ f 1 ≤ 8 := by have := hr 1 (by decide); have e : f ((1 : Nat) : Int) = f 1 := rfl; rw [e] at this; omega
  have r2 : 0 ≤ f 2 ∧ f 2 ≤ 8 := by have := hr 2 (by decide); have e : f ((2 : Nat) : Int) = f 2 := rfl; rw [e] at this; omega
  have r3 : 0 ≤ f 3 ∧ f 3 ≤ 8 := by have := hr 3 (by decide); have e : f ((3 : Nat) : Int) = f 3 := rfl; rw [e] at this; omega
  have r4 : 0 ≤ f 4 ∧ f 4 ≤ 8 := by have := hr 4 (by decide); have e : f ((4 : Nat) : Int) = f 4 := rfl; rw [e] at this; omega
  have r5 : 0 ≤ f 5 ∧ f 5 ≤ 8 := by have := hr 5 (by decide); have e : f ((5 : Nat) : Int) = f 5 := rfl; rw [e] at this; omega
  have r6 : 0 ≤ f 6 ∧ f 6 ≤ 8 := by have := hr 6 (by decide); have e : f ((6 : Nat) : Int) = f 6 := rfl; rw [e] at this; omega
  have r7 : 0 ≤ f 7 ∧ f 7 ≤ 8 := by have := hr 7 (by decide); have e : f ((7 : Nat) : Int) = f 7 := rfl; rw [e] at this; omega
  have d1 : f 0 = f 1 → f 1 = 8 := fun e => cm_dis hc (show 0 < 1 by decide) (by decide) e
  have d2 : f 0 = f 2 → f 2 = 8 := fun e => cm_dis hc (show 0 < 2 by decide) (by decide) e
  have d3 : f 2 = f 3 → f 3 = 8 := fun e => cm_dis hc (show 2 < 3 by decide) (by decide) e
  have d4 : f 0 = f 4 → f 4 = 8 := fun e => cm_dis hc (show 0 < 4 by decide) (by decide) e
  have d5 : f 4 = f 5 → f 5 = 8 := fun e => cm_dis hc (show 4 < 5 by decide) (by decide) e
  have d6 : f 4 = f 6 → f 6 = 8 := fun e => cm_dis hc (show 4 < 6 by decide) (by decide) e
  have d7 : f 6 = f 7 → f 7 = 8 := fun e => cm_dis hc (show 6 < 7 by decide) (by decide) e
  constructor
  · intro h
    have w1_1 : ¬ f 1 < f 0 := (hvB_iff.mp (h 1 (by decide))).1 (by decide)
    have w1_3 : ¬ f 3 < f 2 := (hvB_iff.mp (h 3 (by decide))).1 (by decide)
    have w2_3 : ¬ (f 2 < f 0 ∨ (f 0 = f 2 ∧ f 3 < f 1)) := (hvB_iff.mp (h 3 (by decide))).2.1 (by decide)
    have w1_5 : ¬ f 5 < f 4 := (hvB_iff.mp (h 5 (by decide))).1 (by decide)
    have w1_7 : ¬ f 7 < f 6 := (hvB_iff.mp (h 7 (by decide))).1 (by decide)
    have w2_7 : ¬ (f 6 < f 4 ∨ (f 4 = f 6 ∧ f 7 < f 5)) := (hvB_iff.mp (h 7 (by decide))).2.1 (by decide)
    have w4_7 : ¬ (f 4 < f 0 ∨ (f 0 = f 4 ∧ (f 5 < f 1 ∨ (f 1 = f 5 ∧ (f 6 < f 2 ∨ (f 2 = f 6 ∧ f 7 < f 3)))))) := (hvB_iff.mp (h 7 (by decide))).2.2 (by decide)
    have l1 : f 0 ≤ f 1 := by clear w1_3 w2_3 w1_5 w1_7 w2_7 w4_7; omega
    have l2 : f 0 ≤ f 2 := by clear w1_1 w1_3 w1_5 w1_7 w2_7 w4_7; omega
    have l3 : f 2 ≤ f 3 := by clear w1_1 w2_3 w1_5 w1_7 w2_7 w4_7; omega
    have l4 : f 0 ≤ f 4 := by clear w1_1 w1_3 w2_3 w1_5 w1_7 w2_7; omega
    have l5 : f 4 ≤ f 5 := by clear w1_1 w1_3 w2_3 w1_7 w2_7 w4_7; omega
    have l6 : f 4 ≤ f 6 := by clear w1_1 w1_3 w2_3 w1_5 w1_7 w4_7; omega
    have l7 : f 6 ≤ f 7 := by clear w1_1 w1_3 w2_3 w1_5 w2_7 w4_7; omega
    clear w1_1 w1_3 w2_3 w1_5 w1_7 w2_7 w4_7
    have z0 : f 0 = 0 := by
      obtain ⟨j, hj, hz⟩ := cm_row h2 hle (by decide) hr hc
      clear d1 d2 d3 d4 d5 d6 d7
      rcases (show j = 0 ∨ j = 1 ∨ j = 2 ∨ j = 3 ∨ j = 4 ∨ j = 5 ∨ j = 6 ∨ j = 7 by omega) with rfl | rfl | rfl | rfl | rfl | rfl | rfl | rfl
      · have hz : f 0 = 0 := hz
        omega
      · have hz : f 1 = 0 := hz
        omega
      · have hz : f 2 = 0 := hz
        omega
      · have hz : f 3 = 0 := hz
        omega
      · have hz : f 4 = 0 := hz
        omega
      · have hz : f 5 = 0 := hz
        omega
      · have hz : f 6 = 0 := hz
        omega
      · have hz : f 7 = 0 := hz
        omega
    intro i hi
    rcases (show i = 0 ∨ i = 1 ∨ i = 2 ∨ i = 3 ∨ i = 4 ∨ i = 5 ∨ i = 6 ∨ i = 7 by omega) with rfl | rfl | rfl | rfl | rfl | rfl | rfl | rfl
    · exact Or.inr (Or.inl ⟨rfl, z0⟩)
    · by_cases e : f 1 = 8
      · exact Or.inl e
      · exact Or.inr (Or.inr ⟨by decide, show f 0 < f 1 by omega⟩)
    · by_cases e : f 2 = 8
      · exact Or.inl e
      · exact Or.inr (Or.inr ⟨by decide, show f 0 < f 2 by omega⟩)
    · by_cases e : f 3 = 8
      · exact Or.inl e
      · exact Or.inr (Or.inr ⟨by decide, show f 2 < f 3 by omega⟩)
    · by_cases e : f 4 = 8
      · exact Or.inl e
      · exact Or.inr (Or.inr ⟨by decide, show f 0 < f 4 by omega⟩)
    · by_cases e : f 5 = 8
      · exact Or.inl e
      · exact Or.inr (Or.inr ⟨by decide, show f 4 < f 5 by omega⟩)
    · by_cases e : f 6 = 8
      · exact Or.inl e
      · exact Or.inr (Or.inr ⟨by decide, show f 4 < f 6 by omega⟩)
    · by_cases e : f 7 = 8
      · exact Or.inl e
      · exact Or.inr (Or.inr ⟨by decide, show f 6 < f 7 by omega⟩)
  · intro h
    have k1 : f 1 = 8 ∨ f 0 < f 1 := (h 1 (by decide)).elim Or.inl (fun z => z.elim (fun y => absurd y.1 (by decide)) (fun y => Or.inr y.2))
    have k2 : f 2 = 8 ∨ f 0 < f 2 := (h 2 (by decide)).elim Or.inl (fun z => z.elim (fun y => absurd y.1 (by decide)) (fun y => Or.inr y.2))
    have k3 : f 3 = 8 ∨ f 2 < f 3 := (h 3 (by decide)).elim Or.inl (fun z => z.elim (fun y => absurd y.1 (by decide)) (fun y => Or.inr y.2))
    have k4 : f 4 = 8 ∨ f 0 < f 4 := (h 4 (by decide)).elim Or.inl (fun z => z.elim (fun y => absurd y.1 (by decide)) (fun y => Or.inr y.2))
    have k5 : f 5 = 8 ∨ f 4 < f 5 := (h 5 (by decide)).elim Or.inl (fun z => z.elim (fun y => absurd y.1 (by decide)) (fun y => Or.inr y.2))
    have k6 : f 6 = 8 ∨ f 4 < f 6 := (h 6 (by decide)).elim Or.inl (fun z => z.elim (fun y => absurd y.1 (by decide)) (fun y => Or.inr y.2))
    have k7 : f 7 = 8 ∨ f 6 < f 7 := (h 7 (by decide)).elim Or.inl (fun z => z.elim (fun y => absurd y.1 (by decide)) (fun y => Or.inr y.2))
    intro i hi
    rcases (show i = 0 ∨ i = 1 ∨ i = 2 ∨ i = 3 ∨ i = 4 ∨ i = 5 ∨ i = 6 ∨ i = 7 by omega) with rfl | rfl | rfl | rfl | rfl | rfl | rfl | rfl
    · exact hvB_iff.mpr ⟨fun c => absurd c (by decide), fun c => absurd c (by decide), fun c => absurd c (by decide)⟩
    · exact hvB_iff.mpr ⟨fun _ => (show ¬ f 1 < f 0 by omega), fun c => absurd c (by decide), fun c => absurd c (by decide)⟩
    · exact hvB_iff.mpr ⟨fun c => absurd c (by decide), fun c => absurd c (by decide), fun c => absurd c (by decide)⟩
    · exact hvB_iff.mpr ⟨fun _ => (show ¬ f 3 < f 2 by omega), fun _ => (show ¬ (f 2 < f 0 ∨ (f 0 = f 2 ∧ f 3 < f 1)) by omega), fun c => absurd c (by decide)⟩
    · exact hvB_iff.mpr ⟨fun c => absurd c (by decide), fun c => absurd c (by decide), fun c => absurd c (by decide)⟩
    · exact hvB_iff.mpr ⟨fun _ => (show ¬ f 5 < f 4 by omega), fun c => absurd c (by decide), fun c => absurd c (by decide)⟩
    · exact hvB_iff.mpr ⟨fun c => absurd c (by decide), fun c => absurd c (by decide), fun c => absurd c (by decide)⟩
    · exact hvB_iff.mpr ⟨fun _ => (show ¬ f 7 < f 6 by omega), fun _ => (show ¬ (f 6 < f 4 ∨ (f 4 = f 6 ∧ f 7 < f 5)) by omega), fun _ => (show ¬ (f 4 < f 0 ∨ (f 0 = f 4 ∧ (f 5 < f 1 ∨ (f 1 = f 5 ∧ (f 6 < f 2 ∨ (f 2 = f 6 ∧ f 7 < f 3)))))) by omega)⟩
theorem ko_hv {n sz : Nat} {f : Int → Int} (hs : sz = 2 ∨ sz = 4 ∨ sz = 8) (h2 : 2 ≤ n) (hle : n ≤ sz) (hr : rngP n sz f) (hc : ∀ i : Nat, i < sz → cmn n sz f i) : (∀ i : Nat, i < sz → hvB f sz i = true) ↔ (∀ i : Nat, i < sz → f i = 8 ∨ koA f i (f i)) := by
  rcases hs with rfl | rfl | rfl
  · exact ko_hv2 h2 hle hr hc
  · exact ko_hv4 h2 hle hr hc
  · exact ko_hv8 h2 hle hr hc
theorem ka_na {n sz : Nat} {ro : List Int} {f : Int → Int} (hn : n ≤ 8) (hr : rngP n sz f) (hro : roS ro) {o i : Nat} (ho : o < sz) (hi : i < sz) (o8 : f o ≠ 8) (i8 : f i ≠ 8) : chA ro (f o) (f i) 1 ≤ mrA o i ↔ gI ro (8 * f i + f o) ≤ mrA i o := by
  have r1 := hr o ho
  have r2 := hr i hi
  obtain ⟨x, hx⟩ := Int.eq_ofNat_of_zero_le r1.1
  obtain ⟨y, hy⟩ := Int.eq_ofNat_of_zero_le r2.1
  have e := (hro x y (by omega) (by omega)).1
  rw [hx, hy, mrA_sym (x := i) (y := o), ← e]
  unfold chA
  rw [if_pos (by omega), Int.mul_comm (x : Int) 8]
theorem fit_iff {n sz : Nat} {ro : List Int} {f : Int → Int} (hs : sz = 2 ∨ sz = 4 ∨ sz = 8) (h2 : 2 ≤ n) (hle : n ≤ sz) (hro : roS ro) (hr : rngP n sz f) : (∀ i : Nat, i < sz → fitB n sz ro f i = true) ↔ (∀ i : Nat, i < sz → fitR n sz ro f i) := by
  have h8 : sz ≤ 8 := by omega
  constructor
  · intro h
    have g := fun i hi => fitB_iff.mp (h i hi)
    have hc : ∀ i : Nat, i < sz → cmn n sz f i := fun i hi => by
      have := (g i hi).1
      unfold cmn
      by_cases e : f i = 8
      · rw [if_pos e] at this ⊢; exact this
      · rw [if_neg e] at this ⊢; exact fun q hq => (this q hq).1
    have ko := (ko_hv hs h2 hle hr hc).mp (fun i hi => (g i hi).2)
    intro i hi
    have c := hc i hi
    have gi := (g i hi).1
    unfold cmn at c
    unfold fitR
    by_cases e : f i = 8
    · rw [if_pos e] at c ⊢; exact c
    · rw [if_neg e] at c gi ⊢
      refine ⟨c, (ko i hi).resolve_left e, fun o ho => ?_⟩
      by_cases o8 : f o = 8
      · exact Or.inl o8
      · exact Or.inr ((ka_na (by omega) hr hro (by omega) hi o8 e).mpr ((gi o ho).2.resolve_left o8))
  · intro h
    have hc : ∀ i : Nat, i < sz → cmn n sz f i := fun i hi => by
      have := h i hi
      unfold fitR at this
      unfold cmn
      by_cases e : f i = 8
      · rw [if_pos e] at this ⊢; exact this
      · rw [if_neg e] at this ⊢; exact this.1
    have hv := (ko_hv hs h2 hle hr hc).mpr (fun i hi => by
      have := h i hi
      unfold fitR at this
      by_cases e : f i = 8
      · exact Or.inl e
      · rw [if_neg e] at this; exact Or.inr this.2.1)
    intro i hi
    have c := h i hi
    unfold fitR at c
    refine fitB_iff.mpr ⟨?_, hv i hi⟩
    by_cases e : f i = 8
    · rw [if_pos e] at c ⊢; exact c
    · rw [if_neg e] at c ⊢
      intro o ho
      refine ⟨c.1 o ho, ?_⟩
      by_cases o8 : f o = 8
      · exact Or.inl o8
      · exact Or.inr ((ka_na (by omega) hr hro (by omega) hi o8 e).mp ((c.2.2 o ho).resolve_left o8))
/-- a search by places, values in order -/
def dfs (vs : List Int) (P : List Int → Int → Bool) : Nat → List Int → List (List Int)
  | 0, pr => [pr]
  | g + 1, pr => vs.flatMap (fun v => if P pr v = true then dfs vs P g (pr ++ [v]) else [])
def valN (n : Nat) : List Int := (List.range n).map (fun p : Nat => (p : Int)) ++ [8]
theorem dfs_mem {vs : List Int} {P : List Int → Int → Bool} : ∀ (g : Nat) (pr r : List Int), r ∈ dfs vs P g pr → r.length = pr.length + g ∧ (∀ i : Nat, i < pr.length → gI r i = gI pr i) ∧ ∀ i : Nat, pr.length ≤ i → i < pr.length + g → gI r i ∈ vs
  | 0, pr, r, h => by
    have : r = pr := List.mem_singleton.mp h
    subst this
    exact ⟨rfl, fun _ _ => rfl, fun i h1 h2 => by omega⟩
  | g + 1, pr, r, h => by
    unfold dfs at h
    obtain ⟨v, hv, hr⟩ := List.mem_flatMap.mp h
    split at hr
    · obtain ⟨i1, i2, i3⟩ := dfs_mem g _ r hr
      rw [List.length_append, List.length_singleton] at i1 i2 i3
      refine ⟨by omega, fun i hi => ?_, fun i h1 h2 => ?_⟩
      · rw [i2 i (by omega), gI_init hi]
      · by_cases e : i = pr.length
        · subst e
          rw [i2 _ (by omega), gI_last]
          exact hv
        · exact i3 i (by omega) (by omega)
    · cases hr
/-- a search finds the same rows in the same order if what it asks agrees on all whole rows -/
theorem dfs_flt {vs : List Int} {P : List Int → Int → Bool} (A : List Int → Nat → Bool) (hA : ∀ (pr r : List Int) (v : Int), pr.length < r.length → (∀ i : Nat, i < pr.length → gI r i = gI pr i) → gI r (pr.length : Nat) = v → A r pr.length = P pr v) : ∀ (g : Nat) (pr : List Int), dfs vs P g pr = (dfs vs (fun _ _ => true) g pr).filter (fun r => (List.range r.length).all (fun i => decide (i < pr.length) || A r i))
  | 0, pr => by
    show [pr] = List.filter _ [pr]
    rw [List.filter_cons_of_pos]
    · rfl
    · rw [List.all_eq_true]
      intro i hi
      rw [decide_eq_true (List.mem_range.mp hi)]
      rfl
  | g + 1, pr => by
    unfold dfs
    rw [List.filter_flatMap]
    congr 1
    funext v
    rw [if_pos rfl]
    have ih := dfs_flt (vs := vs) A hA g (pr ++ [v])
    have hm := fun r hr => dfs_mem (vs := vs) (P := fun _ _ => true) g (pr ++ [v]) r hr
    have hl : (pr ++ [v]).length = pr.length + 1 := by rw [List.length_append, List.length_singleton]
    have hp : ∀ r, r ∈ dfs vs (fun _ _ => true) g (pr ++ [v]) → A r pr.length = P pr v := fun r hr => by
      obtain ⟨m1, m2, -⟩ := hm r hr
      rw [hl] at m1 m2
      exact hA pr r v (by omega) (fun i hi => by rw [m2 i (by omega), gI_init hi]) (by rw [m2 _ (by omega), gI_last])
    split
    · rename_i c
      rw [ih]
      refine List.filter_congr (fun r hr => ?_)
      have e := hp r hr
      rw [c] at e
      rw [hl]
      apply Bool.eq_iff_iff.mpr
      rw [List.all_eq_true, List.all_eq_true]
      constructor
      · intro h i hi
        have := h i hi
        by_cases q : i = pr.length
        · subst q; rw [e, Bool.or_true]
        · rw [Bool.or_eq_true, decide_eq_true_eq] at this ⊢
          exact this.elim (fun z => Or.inl (by omega)) Or.inr
      · intro h i hi
        have := h i hi
        rw [Bool.or_eq_true, decide_eq_true_eq] at this ⊢
        exact this.elim (fun z => Or.inl (by omega)) Or.inr
    · rename_i c
      symm
      rw [List.filter_eq_nil_iff]
      intro r hr z
      rw [List.all_eq_true] at z
      have m1 := (hm r hr).1
      have := z pr.length (List.mem_range.mpr (by omega))
      rw [hp r hr, decide_eq_false (Nat.lt_irrefl _), Bool.false_or] at this
      exact c this
theorem dfs_eq {vs : List Int} {P Q : List Int → Int → Bool} (A B : List Int → Nat → Bool) (hA : ∀ (pr r : List Int) (v : Int), pr.length < r.length → (∀ i : Nat, i < pr.length → gI r i = gI pr i) → gI r (pr.length : Nat) = v → A r pr.length = P pr v) (hB : ∀ (pr r : List Int) (v : Int), pr.length < r.length → (∀ i : Nat, i < pr.length → gI r i = gI pr i) → gI r (pr.length : Nat) = v → B r pr.length = Q pr v) (g : Nat) (h : ∀ r : List Int, r.length = g → (∀ i : Nat, i < g → gI r i ∈ vs) → ((∀ i : Nat, i < g → A r i = true) ↔ (∀ i : Nat, i < g → B r i = true))) : dfs vs P g [] = dfs vs Q g [] := by
  rw [dfs_flt A hA, dfs_flt B hB]
  refine List.filter_congr (fun r hr => ?_)
  obtain ⟨m1, -, m3⟩ := dfs_mem g [] r hr
  have hl : r.length = g := by rw [m1]; exact Nat.zero_add g
  have hh := h r hl (fun i hi => m3 i (Nat.zero_le _) (by show i < 0 + g; omega))
  apply Bool.eq_iff_iff.mpr
  rw [List.all_eq_true, List.all_eq_true]
  constructor
  · intro z i hi
    rw [hh.mp (fun i hi => by
      have := z i (List.mem_range.mpr (by omega))
      rw [Bool.or_eq_true, decide_eq_true_eq] at this
      exact this.elim (fun z => absurd z (Nat.not_lt_zero i)) (fun z => z)) i (by have := List.mem_range.mp hi; omega), Bool.or_true]
  · intro z i hi
    rw [hh.mpr (fun i hi => by
      have := z i (List.mem_range.mpr (by omega))
      rw [Bool.or_eq_true, decide_eq_true_eq] at this
      exact this.elim (fun z => absurd z (Nat.not_lt_zero i)) (fun z => z)) i (by have := List.mem_range.mp hi; omega), Bool.or_true]
