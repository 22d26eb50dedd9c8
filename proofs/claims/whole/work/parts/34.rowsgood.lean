/-! what a draw is: rows hold each player once (rows laid by wip/whole) -/
/-- a row of a draw: players, each once, 8 elsewhere -/
def RowG (n sz : Nat) (r : List Int) : Prop := (∀ x : Int, 0 ≤ x → x < 8 → 0 ≤ gI r x ∧ (gI r x < n ∨ gI r x = 8)) ∧ (∀ x y : Int, 0 ≤ x → x < sz → 0 ≤ y → y < sz → gI r x = gI r y → gI r x ≠ 8 → x = y) ∧ (∀ x : Int, sz ≤ x → x < 8 → gI r x = 8) ∧ (∀ v : Int, 0 ≤ v → v < n → ∃ x : Int, 0 ≤ x ∧ x < sz ∧ gI r x = v)
set_option maxRecDepth 100000 in
theorem pc_or : ∀ u : Nat, u < 256 → ∀ p : Nat, p < 8 → u.testBit p = false → pcN (u ||| 2 ^ p) = pcN u + 1 := by decide +kernel
theorem tb_or (u p i : Nat) : (u ||| 2 ^ p).testBit i = true ↔ (u.testBit i = true ∨ i = p) := by
  rw [Nat.testBit_or, Nat.testBit_two_pow]
  simp
  constructor
  · rintro (h | h)
    · exact Or.inl h
    · exact Or.inr h.symm
  · rintro (h | h)
    · exact Or.inl h
    · exact Or.inr h.symm
/-- a beginning of a row, and who is in it -/
def PreG (n sz u : Nat) (pr : List Int) : Prop := u < 256 ∧ (∀ x : Nat, x < pr.length → 0 ≤ gI pr x ∧ (gI pr x < n ∨ gI pr x = 8)) ∧ (∀ x y : Nat, x < pr.length → y < pr.length → gI pr x = gI pr y → gI pr x ≠ 8 → x = y) ∧ (∀ i : Nat, i < 8 → (u.testBit i = true ↔ ∃ x : Nat, x < pr.length ∧ gI pr x = i)) ∧ (pr.length : Int) - pcN u ≤ sz - n
theorem gI_last {pr : List Int} {v : Int} : gI (pr ++ [v]) (pr.length : Nat) = v := by
  rw [gI_app, if_neg (by omega), Nat.sub_self]
  rfl
theorem gI_init {pr : List Int} {v : Int} {x : Nat} (h : x < pr.length) : gI (pr ++ [v]) x = gI pr x := by rw [gI_app, if_pos h]
theorem PreG.put {n sz u p : Nat} {pr : List Int} (hG : PreG n sz u pr) (hn : n ≤ 8) (hp : p < n) (ht : u.testBit p = false) : PreG n sz (u ||| 2 ^ p) (pr ++ [(p : Int)]) := by
  obtain ⟨h1, h2, h3, h4, h5⟩ := hG
  have hu := (bits_all u h1 p (by omega)).2.2
  have hno : ∀ x : Nat, x < pr.length → gI pr x ≠ p := by
    intro x hx e
    have := (h4 p (by omega)).mpr ⟨x, hx, e⟩
    rw [ht] at this
    cases this
  refine ⟨hu, fun x hx => ?_, fun x y hx hy e e8 => ?_, fun i hi => ?_, ?_⟩
  · rw [List.length_append, List.length_singleton] at hx
    by_cases e : x = pr.length
    · rw [e, gI_last]; omega
    · rw [gI_init (by omega)]; exact h2 x (by omega)
  · rw [List.length_append, List.length_singleton] at hx hy
    by_cases ex : x = pr.length
    · by_cases ey : y = pr.length
      · omega
      · rw [ex, gI_last, gI_init (by omega)] at e
        exact absurd e.symm (hno y (by omega))
    · by_cases ey : y = pr.length
      · rw [ey, gI_last, gI_init (by omega)] at e
        exact absurd e (hno x (by omega))
      · rw [gI_init (by omega)] at e e8
        rw [gI_init (by omega)] at e
        exact h3 x y (by omega) (by omega) e e8
  · rw [tb_or, h4 i hi]
    constructor
    · rintro (⟨x, hx, e⟩ | rfl)
      · exact ⟨x, by rw [List.length_append]; omega, by rw [gI_init hx]; exact e⟩
      · exact ⟨pr.length, by rw [List.length_append, List.length_singleton]; omega, gI_last⟩
    · rintro ⟨x, hx, e⟩
      rw [List.length_append, List.length_singleton] at hx
      by_cases ex : x = pr.length
      · rw [ex, gI_last] at e
        exact Or.inr (by omega)
      · rw [gI_init (by omega)] at e
        exact Or.inl ⟨x, by omega, e⟩
  · rw [List.length_append, List.length_singleton, pc_or u h1 p (by omega) ht]
    omega
theorem PreG.gap {n sz u : Nat} {pr : List Int} (hG : PreG n sz u pr) (hg : (pr.length : Int) - pcN u < sz - n) : PreG n sz u (pr ++ [8]) := by
  obtain ⟨h1, h2, h3, h4, h5⟩ := hG
  refine ⟨h1, fun x hx => ?_, fun x y hx hy e e8 => ?_, fun i hi => ?_, ?_⟩
  · rw [List.length_append, List.length_singleton] at hx
    by_cases e : x = pr.length
    · rw [e, gI_last]; omega
    · rw [gI_init (by omega)]; exact h2 x (by omega)
  · rw [List.length_append, List.length_singleton] at hx hy
    by_cases ex : x = pr.length
    · rw [ex, gI_last] at e8
      exact absurd rfl e8
    · by_cases ey : y = pr.length
      · rw [ey, gI_last] at e
        exact absurd e e8
      · rw [gI_init (by omega)] at e e8
        rw [gI_init (by omega)] at e
        exact h3 x y (by omega) (by omega) e e8
  · rw [h4 i hi]
    constructor
    · rintro ⟨x, hx, e⟩
      exact ⟨x, by rw [List.length_append]; omega, by rw [gI_init hx]; exact e⟩
    · rintro ⟨x, hx, e⟩
      rw [List.length_append, List.length_singleton] at hx
      by_cases ex : x = pr.length
      · rw [ex, gI_last] at e
        omega
      · rw [gI_init (by omega)] at e
        exact ⟨x, by omega, e⟩
  · rw [List.length_append, List.length_singleton]
    omega
/-- as many bits as players: all of them -/
theorem pc_all {u n : Nat} (hn : n ≤ 8) (hb : ∀ i : Nat, i < 8 → u.testBit i = true → i < n) (hp : (n : Int) ≤ pcN u) : ∀ i : Nat, i < n → u.testBit i = true := by
  have key : ∀ j : Nat, sumN (fun i => bI (u.testBit i = true)) j ≤ j ∧ ((∀ i, i < j → u.testBit i = true → i < n) → sumN (fun i => bI (u.testBit i = true)) j ≤ n ∧ (sumN (fun i => bI (u.testBit i = true)) j = j → ∀ i, i < j → u.testBit i = true)) := by
    intro j
    induction j with
    | zero => exact ⟨Int.le_refl _, fun _ => ⟨by simp [sumN], fun _ i hi => absurd hi (Nat.not_lt_zero i)⟩⟩
    | succ j ih =>
      have e : sumN (fun i => bI (u.testBit i = true)) (j + 1) = sumN (fun i => bI (u.testBit i = true)) j + bI (u.testBit j = true) := rfl
      have b01 := bI_01 (p := u.testBit j = true)
      refine ⟨by rw [e]; omega, fun hh => ⟨?_, fun hs i hi => ?_⟩⟩
      · by_cases hj : u.testBit j = true
        · have := hh j (by omega) hj
          rw [e]; omega
        · have := (ih.2 (fun i hi => hh i (by omega))).1
          rw [e, bI_f hj]; omega
      · have ih1 := ih.1
        by_cases hj : u.testBit j = true
        · by_cases ei : i = j
          · rw [ei]; exact hj
          · exact (ih.2 (fun i hi => hh i (by omega))).2 (by rw [e, bI_t hj] at hs; omega) i (by omega)
        · rw [e, bI_f hj] at hs
          omega
  -- the bits from n on are not set
  have hz : ∀ j : Nat, n + j ≤ 8 → sumN (fun i => bI (u.testBit i = true)) (n + j) = sumN (fun i => bI (u.testBit i = true)) n := by
    intro j
    induction j with
    | zero => intro _; rfl
    | succ j ih =>
      intro hj
      have e : sumN (fun i => bI (u.testBit i = true)) (n + (j + 1)) = sumN (fun i => bI (u.testBit i = true)) (n + j) + bI (u.testBit (n + j) = true) := rfl
      rw [e, ih (by omega), bI_f (fun z => by have := hb (n + j) (by omega) z; omega)]
      omega
  have h8 := hz (8 - n) (by omega)
  rw [show n + (8 - n) = 8 by omega] at h8
  have hn2 : sumN (fun i => bI (u.testBit i = true)) n = n := by
    have := (key n).1
    unfold pcN at hp
    omega
  exact ((key n).2 (fun i hi _ => hi)).2 hn2
theorem PreG.row {n sz u : Nat} {pr : List Int} (hG : PreG n sz u pr) (hn : n ≤ 8) (h8 : sz ≤ 8) (hl : pr.length = sz) : RowG n sz (pr ++ List.replicate (8 - pr.length) 8) := by
  obtain ⟨h1, h2, h3, h4, h5⟩ := hG
  have get : ∀ x : Nat, x < 8 → gI (pr ++ List.replicate (8 - pr.length) 8) x = if x < sz then gI pr x else 8 := by
    intro x hx
    rw [gI_app, hl]
    split
    · rfl
    · rw [gI_rep, if_pos (by omega)]
  have hb : ∀ i : Nat, i < 8 → u.testBit i = true → i < n := by
    intro i hi ht
    obtain ⟨x, hx, e⟩ := (h4 i hi).mp ht
    have := h2 x hx
    omega
  have hall := pc_all hn hb (by omega)
  refine ⟨fun x x0 x1 => ?_, fun x y x0 x1 y0 y1 e e8 => ?_, fun x x0 x1 => ?_, fun v v0 v1 => ?_⟩
  · obtain ⟨a, rfl⟩ := Int.eq_ofNat_of_zero_le x0
    rw [get a (by omega)]
    split
    · exact h2 a (by omega)
    · omega
  · obtain ⟨a, rfl⟩ := Int.eq_ofNat_of_zero_le x0
    obtain ⟨b, rfl⟩ := Int.eq_ofNat_of_zero_le y0
    rw [get a (by omega), if_pos (by omega)] at e e8
    rw [get b (by omega), if_pos (by omega)] at e
    have := h3 a b (by omega) (by omega) e e8
    omega
  · obtain ⟨a, rfl⟩ := Int.eq_ofNat_of_zero_le (by omega : 0 ≤ x)
    rw [get a (by omega), if_neg (by omega)]
  · obtain ⟨a, rfl⟩ := Int.eq_ofNat_of_zero_le v0
    obtain ⟨x, hx, e⟩ := (h4 a (by omega)).mp (hall a (by omega))
    exact ⟨x, by omega, by omega, by rw [get x (by omega), if_pos (by omega)]; exact e⟩
theorem fillR_good {n sz : Nat} {ro : List Int} (hn : n ≤ 8) (h8 : sz ≤ 8) : ∀ (g u : Nat) (pr : List Int), pr.length + g = sz → PreG n sz u pr → ∀ r ∈ fillR n sz ro g u pr, RowG n sz r
  | 0, u, pr, hg, hG, r, hr => by
    unfold fillR at hr
    rw [List.mem_singleton.mp hr]
    exact hG.row hn h8 (by omega)
  | g + 1, u, pr, hg, hG, r, hr => by
    unfold fillR at hr
    rcases List.mem_append.mp hr with hr | hr
    · obtain ⟨p, hp, hr⟩ := List.mem_flatMap.mp hr
      split at hr
      · rename_i hok
        exact fillR_good hn h8 g _ _ (by rw [List.length_append, List.length_singleton]; omega) (hG.put hn (List.mem_range.mp hp) hok.1) r hr
      · cases hr
    · split at hr
      · rename_i hgap
        exact fillR_good hn h8 g _ _ (by rw [List.length_append, List.length_singleton]; omega) (hG.gap hgap) r hr
      · cases hr
theorem rowsO_good {n sz : Nat} {ro : List Int} (hn : n ≤ 8) (h8 : sz ≤ 8) : ∀ r ∈ rowsO n sz ro, RowG n sz r := by
  intro r hr
  unfold rowsO at hr
  have hr := List.mem_of_mem_take hr
  split at hr
  · rename_i hle
    refine fillR_good hn h8 sz 0 [] (by simp) ⟨by decide, fun x hx => absurd hx (Nat.not_lt_zero x), fun x y hx => absurd hx (Nat.not_lt_zero x), fun i hi => ?_, ?_⟩ r hr
    · simp
    · have : pcN 0 = 0 := by decide
      rw [this]
      simp
      omega
  · cases hr
theorem drG {n sz : Nat} {ro : List Int} (hn : n ≤ 8) (h8 : sz ≤ 8) {i : Int} (h0 : 0 ≤ i) (h1 : i < ((rowsO n sz ro).length : Nat)) : RowG n sz ((rowsO n sz ro).getD i.toNat []) := by
  refine rowsO_good (ro := ro) hn h8 _ ?_
  rw [List.getD_eq_getElem?_getD, List.getElem?_eq_getElem (by omega : i.toNat < (rowsO n sz ro).length)]
  exact List.getElem_mem _
