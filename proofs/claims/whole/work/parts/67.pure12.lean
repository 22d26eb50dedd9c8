/-! rows put in order: both orders are one; how many players are placed (rows laid by wip/whole) -/
/-- what lies below a match, exchanged where its right side is before its left one -/
def exM (l : List Int) (a w : Int) : List Int := if bhF (gI l) w.toNat a (a + w) = true then excL l a w else l
def GW (sz : Int) (l : List Int) : Prop := l.length = 8 ∧ (∀ x : Int, 0 ≤ x → x < 8 → 0 ≤ gI l x ∧ gI l x ≤ 8) ∧ (∀ x y : Int, 0 ≤ x → x < 8 → 0 ≤ y → y < 8 → gI l x = gI l y → gI l x ≠ 8 → x = y) ∧ (∀ x : Int, sz ≤ x → x < 8 → gI l x = 8)
def BM (l : List Int) (a w : Int) : Prop := ∀ i : Int, a ≤ i → i < a + w → gI l a ≤ gI l i
def sgm (l : List Int) (a w y : Int) : Int := if gI l (a + w) < gI l a then (if a ≤ y ∧ y < a + w then y + w else if a + w ≤ y ∧ y < a + w + w then y - w else y) else y
theorem excL_get {l : List Int} {f w y : Int} (y0 : 0 ≤ y) (y8 : y < 8) : gI (excL l f w) y = if f ≤ y ∧ y < f + w then gI l (y + w) else if f + w ≤ y ∧ y < f + w + w then gI l (y - w) else gI l y := by
  unfold excL
  rw [gI_map8 y0 y8, show ((y.toNat : Nat) : Int) = y by omega]
theorem ex_get {l : List Int} {a w y : Int} (y0 : 0 ≤ y) (y8 : y < 8) : gI (exO l a w) y = gI l (sgm l a w y) := by
  unfold exO sgm
  by_cases c : gI l (a + w) < gI l a
  · rw [if_pos c, if_pos c, excL_get y0 y8]
    split
    · rfl
    · split <;> rfl
  · rw [if_neg c, if_neg c]
theorem sgm_in {l : List Int} {a w y : Int} (a0 : 0 ≤ a) (w1 : 1 ≤ w) (a8 : a + w + w ≤ 8) (y0 : 0 ≤ y) (y8 : y < 8) : 0 ≤ sgm l a w y ∧ sgm l a w y < 8 ∧ ((y < a ∨ a + w + w ≤ y) → sgm l a w y = y) := by
  unfold sgm
  (repeat' split) <;> omega
theorem sgm_inj {l : List Int} {a w x y : Int} (w1 : 1 ≤ w) (h : sgm l a w x = sgm l a w y) : x = y := by
  unfold sgm at h
  by_cases c : gI l (a + w) < gI l a
  · rw [if_pos c, if_pos c] at h
    (repeat' split at h) <;> omega
  · rw [if_neg c, if_neg c] at h
    exact h
theorem GW.ex {sz : Int} {l : List Int} {a w : Int} (hG : GW sz l) (a0 : 0 ≤ a) (w1 : 1 ≤ w) (a8 : a + w + w ≤ sz) (h8 : sz ≤ 8) : GW sz (exO l a w) := by
  obtain ⟨g1, g2, g3, g4⟩ := hG
  have s := fun y y0 y8 => sgm_in (l := l) (a := a) (w := w) (y := y) a0 w1 (by omega) y0 y8
  refine ⟨exO_len g1 a w, fun x x0 x8 => ?_, fun x y x0 x8 y0 y8 e n => ?_, fun x x0 x8 => ?_⟩
  · rw [ex_get x0 x8]; exact g2 _ (s x x0 x8).1 (s x x0 x8).2.1
  · rw [ex_get x0 x8] at e n
    rw [ex_get y0 y8] at e
    exact sgm_inj w1 (g3 _ _ (s x x0 x8).1 (s x x0 x8).2.1 (s y y0 y8).1 (s y y0 y8).2.1 e n)
  · rw [ex_get (by omega) x8, (s x (by omega) x8).2.2 (by omega)]; exact g4 x x0 x8
theorem BM_1 {l : List Int} {a : Int} : BM l a 1 := fun i h1 h2 => by rw [show i = a by omega]; exact Int.le_refl _
theorem BM.ex {l : List Int} {a w w2 : Int} (h1 : BM l a w) (h2 : BM l (a + w) w) (a0 : 0 ≤ a) (w1 : 1 ≤ w) (a8 : a + w + w ≤ 8) (e2 : w2 = w + w) : BM (exO l a w) a w2 := by
  subst e2
  intro i i0 i1
  rw [ex_get a0 (by omega), ex_get (by omega) (by omega)]
  unfold sgm
  by_cases c : gI l (a + w) < gI l a
  · rw [if_pos c, if_pos c, if_pos ⟨Int.le_refl a, by omega⟩]
    by_cases d : i < a + w
    · rw [if_pos ⟨i0, d⟩]
      exact h2 (i + w) (by omega) (by omega)
    · rw [if_neg (fun z => d z.2), if_pos ⟨by omega, by omega⟩]
      have := h1 (i - w) (by omega) (by omega)
      omega
  · rw [if_neg c, if_neg c]
    by_cases d : i < a + w
    · exact h1 i i0 d
    · have := h2 i (by omega) (by omega)
      omega
theorem BM.oth {l : List Int} {a w b v : Int} (h : BM l b v) (a0 : 0 ≤ a) (w1 : 1 ≤ w) (a8 : a + w + w ≤ 8) (b0 : 0 ≤ b) (b8 : b + v ≤ 8) (hd : b + v ≤ a ∨ a + w + w ≤ b) : BM (exO l a w) b v := by
  intro i i0 i1
  have s := fun y y0 y8 => sgm_in (l := l) (a := a) (w := w) (y := y) a0 w1 a8 y0 y8
  rw [ex_get b0 (by omega), ex_get (by omega) (by omega), (s b b0 (by omega)).2.2 (by omega), (s i (by omega) (by omega)).2.2 (by omega)]
  exact h i i0 i1
theorem bh_eq {f : Int → Int} : ∀ (n : Nat) (a b : Int), (∀ i : Nat, i < n → f (a + i) = f (b + i)) → bhF f n a b = false
  | 0, _, _, _ => rfl
  | n + 1, a, b, h => by
    have h0 := h 0 (by omega)
    rw [show a + ((0 : Nat) : Int) = a by omega, show b + ((0 : Nat) : Int) = b by omega] at h0
    show (if f a = f b then bhF f n (a + 1) (b + 1) else decide (f b < f a)) = false
    rw [if_pos h0]
    refine bh_eq n _ _ (fun i hi => ?_)
    have := h (i + 1) (by omega)
    rw [show a + 1 + (i : Int) = a + ((i + 1 : Nat) : Int) by omega, show b + 1 + (i : Int) = b + ((i + 1 : Nat) : Int) by omega]
    exact this
theorem exM_eq {sz : Int} {l : List Int} {a w : Int} (hG : GW sz l) (a0 : 0 ≤ a) (w1 : 1 ≤ w) (a8 : a + w + w ≤ 8) (h1 : BM l a w) (h2 : BM l (a + w) w) : exM l a w = exO l a w := by
  obtain ⟨g1, g2, g3, g4⟩ := hG
  obtain ⟨n, hn⟩ : ∃ n : Nat, w.toNat = n + 1 := ⟨w.toNat - 1, by omega⟩
  have key : bhF (gI l) w.toNat a (a + w) = true ↔ gI l (a + w) < gI l a := by
    by_cases c : gI l a = gI l (a + w)
    · have e8 : gI l a = 8 := Classical.byContradiction (fun z => by
        have := g3 a (a + w) a0 (by omega) (by omega) (by omega) c z
        omega)
      rw [bh_eq w.toNat a (a + w) (fun i hi => by
        have q1 := h1 (a + i) (by omega) (by omega)
        have q2 := h2 (a + w + i) (by omega) (by omega)
        have r1 := (g2 (a + i) (by omega) (by omega)).2
        have r2 := (g2 (a + w + i) (by omega) (by omega)).2
        omega)]
      exact ⟨fun z => absurd z (by decide), fun z => by omega⟩
    · rw [hn, bhF_s]
      exact ⟨fun z => z.elim (fun y => y) (fun y => absurd y.1 c), fun z => Or.inl z⟩
  unfold exM exO
  by_cases c : gI l (a + w) < gI l a
  · rw [if_pos c, if_pos (key.mpr c)]
  · rw [if_neg c, if_neg (fun z => c (key.mp z))]
theorem ex_no {sz : Int} {l : List Int} {a w : Int} (hG : GW sz l) (a0 : sz ≤ a) (w1 : 1 ≤ w) (a8 : a + w + w ≤ 8) : exO l a w = l := by
  obtain ⟨g1, g2, g3, g4⟩ := hG
  unfold exO
  rw [if_neg (by rw [g4 a a0 (by omega), g4 (a + w) (by omega) (by omega)]; decide)]
/-- who is in the row -/
def SubL (l l' : List Int) : Prop := ∀ x : Int, 0 ≤ x → x < 8 → ∃ y : Int, 0 ≤ y ∧ y < 8 ∧ gI l' x = gI l y
theorem SubL.ex {l l' : List Int} {a w : Int} (h : SubL l l') (a0 : 0 ≤ a) (w1 : 1 ≤ w) (a8 : a + w + w ≤ 8) : SubL l (exO l' a w) := fun x x0 x8 => by
  have s := sgm_in (l := l') (a := a) (w := w) a0 w1 a8 x0 x8
  obtain ⟨y, y0, y1, hy⟩ := h _ s.1 s.2.1
  exact ⟨y, y0, y1, by rw [ex_get x0 x8]; exact hy⟩
theorem ord_2 {l : List Int} (hG : GW 2 l) : exM (l) 0 1 = ordL l 2 ∧ GW 2 (ordL l 2) ∧ SubL l (ordL l 2) := by
  have s0 : SubL l l := fun x x0 x8 => ⟨x, x0, x8, rfl⟩
  obtain ⟨l1, e1⟩ : ∃ lx, lx = exO l 0 1 := ⟨_, rfl⟩
  have m1 : exM l 0 1 = l1 := (exM_eq hG (by decide) (by decide) (by decide) BM_1 BM_1).trans e1.symm
  have g1 : GW 2 l1 := by rw [e1]; exact hG.ex (by decide) (by decide) (by decide) (by decide)
  have s1 : SubL l l1 := by rw [e1]; exact s0.ex (by decide) (by decide) (by decide)
  have b1_0_2 : BM l1 0 2 := by rw [e1]; exact BM.ex BM_1 BM_1 (by decide) (by decide) (by decide) (by decide)
  have eo : ordL l 2 = exO (exO (exO (exO (l) 0 1) 2 1) 4 1) 6 1 := rfl
  rw [eo, ← e1, ex_no (sz := 2) g1 (by decide) (by decide) (by decide), ex_no (sz := 2) g1 (by decide) (by decide) (by decide), ex_no (sz := 2) g1 (by decide) (by decide) (by decide), m1]
  exact ⟨rfl, g1, s1⟩
theorem ord_4 {l : List Int} (hG : GW 4 l) : exM (exM (exM (l) 0 1) 2 1) 0 2 = ordL l 4 ∧ GW 4 (ordL l 4) ∧ SubL l (ordL l 4) := by
  have s0 : SubL l l := fun x x0 x8 => ⟨x, x0, x8, rfl⟩
  obtain ⟨l1, e1⟩ : ∃ lx, lx = exO l 0 1 := ⟨_, rfl⟩
  have m1 : exM l 0 1 = l1 := (exM_eq hG (by decide) (by decide) (by decide) BM_1 BM_1).trans e1.symm
  have g1 : GW 4 l1 := by rw [e1]; exact hG.ex (by decide) (by decide) (by decide) (by decide)
  have s1 : SubL l l1 := by rw [e1]; exact s0.ex (by decide) (by decide) (by decide)
  have b1_0_2 : BM l1 0 2 := by rw [e1]; exact BM.ex BM_1 BM_1 (by decide) (by decide) (by decide) (by decide)
  obtain ⟨l2, e2⟩ : ∃ lx, lx = exO l1 2 1 := ⟨_, rfl⟩
  have m2 : exM l1 2 1 = l2 := (exM_eq g1 (by decide) (by decide) (by decide) BM_1 BM_1).trans e2.symm
  have g2 : GW 4 l2 := by rw [e2]; exact g1.ex (by decide) (by decide) (by decide) (by decide)
  have s2 : SubL l l2 := by rw [e2]; exact s1.ex (by decide) (by decide) (by decide)
  have b2_0_2 : BM l2 0 2 := by rw [e2]; exact BM.oth b1_0_2 (by decide) (by decide) (by decide) (by decide) (by decide) (by decide)
  have b2_2_2 : BM l2 2 2 := by rw [e2]; exact BM.ex BM_1 BM_1 (by decide) (by decide) (by decide) (by decide)
  obtain ⟨l3, e3⟩ : ∃ lx, lx = exO l2 0 2 := ⟨_, rfl⟩
  have m3 : exM l2 0 2 = l3 := (exM_eq g2 (by decide) (by decide) (by decide) b2_0_2 b2_2_2).trans e3.symm
  have g3 : GW 4 l3 := by rw [e3]; exact g2.ex (by decide) (by decide) (by decide) (by decide)
  have s3 : SubL l l3 := by rw [e3]; exact s2.ex (by decide) (by decide) (by decide)
  have b3_0_4 : BM l3 0 4 := by rw [e3]; exact BM.ex b2_0_2 b2_2_2 (by decide) (by decide) (by decide) (by decide)
  have eo : ordL l 4 = exO (exO (exO (exO (exO (exO (l) 0 1) 2 1) 4 1) 6 1) 0 2) 4 2 := rfl
  rw [eo, ← e1, ← e2, ex_no (sz := 4) g2 (by decide) (by decide) (by decide), ex_no (sz := 4) g2 (by decide) (by decide) (by decide), ← e3, ex_no (sz := 4) g3 (by decide) (by decide) (by decide), m1, m2, m3]
  exact ⟨rfl, g3, s3⟩
theorem ord_8 {l : List Int} (hG : GW 8 l) : exM (exM (exM (exM (exM (exM (exM (l) 0 1) 2 1) 4 1) 6 1) 0 2) 4 2) 0 4 = ordL l 8 ∧ GW 8 (ordL l 8) ∧ SubL l (ordL l 8) := by
  have s0 : SubL l l := fun x x0 x8 => ⟨x, x0, x8, rfl⟩
  obtain ⟨l1, e1⟩ : ∃ lx, lx = exO l 0 1 := ⟨_, rfl⟩
  have m1 : exM l 0 1 = l1 := (exM_eq hG (by decide) (by decide) (by decide) BM_1 BM_1).trans e1.symm
  have g1 : GW 8 l1 := by rw [e1]; exact hG.ex (by decide) (by decide) (by decide) (by decide)
  have s1 : SubL l l1 := by rw [e1]; exact s0.ex (by decide) (by decide) (by decide)
  have b1_0_2 : BM l1 0 2 := by rw [e1]; exact BM.ex BM_1 BM_1 (by decide) (by decide) (by decide) (by decide)
  obtain ⟨l2, e2⟩ : ∃ lx, lx = exO l1 2 1 := ⟨_, rfl⟩
  have m2 : exM l1 2 1 = l2 := (exM_eq g1 (by decide) (by decide) (by decide) BM_1 BM_1).trans e2.symm
  have g2 : GW 8 l2 := by rw [e2]; exact g1.ex (by decide) (by decide) (by decide) (by decide)
  have s2 : SubL l l2 := by rw [e2]; exact s1.ex (by decide) (by decide) (by decide)
  have b2_0_2 : BM l2 0 2 := by rw [e2]; exact BM.oth b1_0_2 (by decide) (by decide) (by decide) (by decide) (by decide) (by decide)
  have b2_2_2 : BM l2 2 2 := by rw [e2]; exact BM.ex BM_1 BM_1 (by decide) (by decide) (by decide) (by decide)
  obtain ⟨l3, e3⟩ : ∃ lx, lx = exO l2 4 1 := ⟨_, rfl⟩
  have m3 : exM l2 4 1 = l3 := (exM_eq g2 (by decide) (by decide) (by decide) BM_1 BM_1).trans e3.symm
  have g3 : GW 8 l3 := by rw [e3]; exact g2.ex (by decide) (by decide) (by decide) (by decide)
  have s3 : SubL l l3 := by rw [e3]; exact s2.ex (by decide) (by decide) (by decide)
  have b3_0_2 : BM l3 0 2 := by rw [e3]; exact BM.oth b2_0_2 (by decide) (by decide) (by decide) (by decide) (by decide) (by decide)
  have b3_2_2 : BM l3 2 2 := by rw [e3]; exact BM.oth b2_2_2 (by decide) (by decide) (by decide) (by decide) (by decide) (by decide)
  have b3_4_2 : BM l3 4 2 := by rw [e3]; exact BM.ex BM_1 BM_1 (by decide) (by decide) (by decide) (by decide)
  obtain ⟨l4, e4⟩ : ∃ lx, lx = exO l3 6 1 := ⟨_, rfl⟩
  have m4 : exM l3 6 1 = l4 := (exM_eq g3 (by decide) (by decide) (by decide) BM_1 BM_1).trans e4.symm
  have g4 : GW 8 l4 := by rw [e4]; exact g3.ex (by decide) (by decide) (by decide) (by decide)
  have s4 : SubL l l4 := by rw [e4]; exact s3.ex (by decide) (by decide) (by decide)
  have b4_0_2 : BM l4 0 2 := by rw [e4]; exact BM.oth b3_0_2 (by decide) (by decide) (by decide) (by decide) (by decide) (by decide)
  have b4_2_2 : BM l4 2 2 := by rw [e4]; exact BM.oth b3_2_2 (by decide) (by decide) (by decide) (by decide) (by decide) (by decide)
  have b4_4_2 : BM l4 4 2 := by rw [e4]; exact BM.oth b3_4_2 (by decide) (by decide) (by decide) (by decide) (by decide) (by decide)
  have b4_6_2 : BM l4 6 2 := by rw [e4]; exact BM.ex BM_1 BM_1 (by decide) (by decide) (by decide) (by decide)
  obtain ⟨l5, e5⟩ : ∃ lx, lx = exO l4 0 2 := ⟨_, rfl⟩
  have m5 : exM l4 0 2 = l5 := (exM_eq g4 (by decide) (by decide) (by decide) b4_0_2 b4_2_2).trans e5.symm
  have g5 : GW 8 l5 := by rw [e5]; exact g4.ex (by decide) (by decide) (by decide) (by decide)
  have s5 : SubL l l5 := by rw [e5]; exact s4.ex (by decide) (by decide) (by decide)
  have b5_4_2 : BM l5 4 2 := by rw [e5]; exact BM.oth b4_4_2 (by decide) (by decide) (by decide) (by decide) (by decide) (by decide)
  have b5_6_2 : BM l5 6 2 := by rw [e5]; exact BM.oth b4_6_2 (by decide) (by decide) (by decide) (by decide) (by decide) (by decide)
  have b5_0_4 : BM l5 0 4 := by rw [e5]; exact BM.ex b4_0_2 b4_2_2 (by decide) (by decide) (by decide) (by decide)
  obtain ⟨l6, e6⟩ : ∃ lx, lx = exO l5 4 2 := ⟨_, rfl⟩
  have m6 : exM l5 4 2 = l6 := (exM_eq g5 (by decide) (by decide) (by decide) b5_4_2 b5_6_2).trans e6.symm
  have g6 : GW 8 l6 := by rw [e6]; exact g5.ex (by decide) (by decide) (by decide) (by decide)
  have s6 : SubL l l6 := by rw [e6]; exact s5.ex (by decide) (by decide) (by decide)
  have b6_0_4 : BM l6 0 4 := by rw [e6]; exact BM.oth b5_0_4 (by decide) (by decide) (by decide) (by decide) (by decide) (by decide)
  have b6_4_4 : BM l6 4 4 := by rw [e6]; exact BM.ex b5_4_2 b5_6_2 (by decide) (by decide) (by decide) (by decide)
  obtain ⟨l7, e7⟩ : ∃ lx, lx = exO l6 0 4 := ⟨_, rfl⟩
  have m7 : exM l6 0 4 = l7 := (exM_eq g6 (by decide) (by decide) (by decide) b6_0_4 b6_4_4).trans e7.symm
  have g7 : GW 8 l7 := by rw [e7]; exact g6.ex (by decide) (by decide) (by decide) (by decide)
  have s7 : SubL l l7 := by rw [e7]; exact s6.ex (by decide) (by decide) (by decide)
  have b7_0_8 : BM l7 0 8 := by rw [e7]; exact BM.ex b6_0_4 b6_4_4 (by decide) (by decide) (by decide) (by decide)
  have eo : ordL l 8 = exO (exO (exO (exO (exO (exO (exO (l) 0 1) 2 1) 4 1) 6 1) 0 2) 4 2) 0 4 := rfl
  rw [eo, ← e1, ← e2, ← e3, ← e4, ← e5, ← e6, ← e7, m1, m2, m3, m4, m5, m6, m7]
  exact ⟨rfl, g7, s7⟩
theorem sum_lt_n : ∀ n : Nat, n < 9 → sumN (fun b => if b < n then (1 : Int) else 0) 8 = n := by decide
/-- all players placed, each once: so many places are taken -/
theorem cnt_n {n sz : Nat} {pl : List Int} (hn : n ≤ 8) (h8 : sz ≤ 8) (hv : ∀ x : Int, 0 ≤ x → x < sz → rd8 pl x = 8 ∨ (0 ≤ rd8 pl x ∧ rd8 pl x < n)) (hr : ∀ x : Int, 0 ≤ rd8 pl x ∧ rd8 pl x ≤ 8) (hd : DisG sz pl) (ha : ∀ v : Nat, v < n → ∃ x : Int, 0 ≤ x ∧ x < sz ∧ rd8 pl x = v) : cnt8 pl 0 sz = n := by
  have e := sum_reix (pl := pl) (a := 0) (w := sz) (P := fun b => if b < n then (1 : Int) else 0) (fun x y x0 x1 y0 y1 => hd x y x0 (by omega) y0 (by omega)) hr (fun p hp hno => by
    by_cases c : p < n
    · obtain ⟨x, x0, x1, hx⟩ := ha p c
      exact absurd hx (hno x x0 (by omega))
    · exact if_neg (by omega))
  have e1 : sumN (fun b : Nat => if (b : Int) < (n : Int) then (1 : Int) else 0) 8 = n := by
    refine Eq.trans ?_ (sum_lt_n n (by omega))
    exact sumN_congr 8 (fun b hb => by
      by_cases c : b < n
      · rw [if_pos c, if_pos (by omega)]
      · rw [if_neg c, if_neg (by omega)])
  unfold cnt8
  rw [Int.sub_zero, Int.toNat_natCast, ← e1]
  refine Eq.trans ?_ e.symm
  refine sumN_congr sz (fun i hi => ?_)
  have := hv (0 + i) (by omega) (by omega)
  by_cases c : rd8 pl (0 + i) = 8
  · rw [if_pos c, bI_f (fun z => z c)]
  · rw [if_neg c, bI_t c]
    exact (if_pos (by omega)).symm
