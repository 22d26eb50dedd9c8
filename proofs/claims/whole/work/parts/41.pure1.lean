/-! odds above 0 and sets say the same (rows laid by wip/whole) -/
theorem sumN_pos {f : Nat → Int} : ∀ n : Nat, (∀ i, 0 ≤ f i) → (0 < sumN f n ↔ ∃ i, i < n ∧ 0 < f i)
  | 0, _ => ⟨fun h => absurd h (by show ¬ (0 : Int) < 0; omega), fun ⟨i, h, _⟩ => absurd h (by omega)⟩
  | n + 1, hf => by
    have ih := sumN_pos n hf
    have hn := hf n
    have h0 : 0 ≤ sumN f n := by
      by_cases e : 0 < sumN f n
      · omega
      · have z : ∀ m, m ≤ n → 0 ≤ sumN f m := fun m => by
          induction m with
          | zero => intro _; exact Int.le_refl _
          | succ m im => intro hm; have := im (by omega); have := hf m; show 0 ≤ sumN f m + f m; omega
        exact z n (Nat.le_refl _)
    show 0 < sumN f n + f n ↔ _
    constructor
    · intro h
      by_cases e : 0 < f n
      · exact ⟨n, by omega, e⟩
      · obtain ⟨i, h1, h2⟩ := ih.mp (by omega)
        exact ⟨i, by omega, h2⟩
    · rintro ⟨i, h1, h2⟩
      by_cases e : i = n
      · subst e; omega
      · have := ih.mpr ⟨i, by omega, h2⟩
        omega
theorem cnt8_z {pl : List Int} {a b : Int} : cnt8 pl a b = 0 ↔ ∀ x : Int, a ≤ x → x < b → rd8 pl x = 8 := by
  have hb := cnt8_in pl a b
  have hp := fun _ : Nat => sumN_pos (f := fun i => bI (rd8 pl (a + i) ≠ 8)) (b - a).toNat (fun i => by rcases bI_01 (p := rd8 pl (a + i) ≠ 8) with e | e <;> omega)
  constructor
  · intro h x h0 h1
    by_cases e : rd8 pl x = 8
    · exact e
    · have : 0 < sumN (fun i => bI (rd8 pl (a + i) ≠ 8)) (b - a).toNat := (hp 0).mpr ⟨(x - a).toNat, by omega, by rw [show a + (((x - a).toNat : Nat) : Int) = x by omega, bI_t e]; decide⟩
      unfold cnt8 at h
      omega
  · intro h
    by_cases e : cnt8 pl a b = 0
    · exact e
    · obtain ⟨i, h1, h2⟩ := (hp 0).mp (by unfold cnt8 at e hb; omega)
      rw [bI_f (fun z => z (h (a + i) (by omega) (by omega)))] at h2
      exact absurd h2 (by decide)
theorem pts_pos {r : Int} (h0 : 0 ≤ r) (h3 : r ≤ 3) : 0 < pts r := by
  rcases (show r = 0 ∨ r = 1 ∨ r = 2 ∨ r = 3 by omega) with rfl | rfl | rfl | rfl <;> decide
theorem oa_pos {f : Int → Int} {pl ch : List Int} {r x a b : Int} (hch : chB ch) (hf : ∀ y, 0 ≤ f y) (h1 : 1 ≤ r) (h3 : r ≤ 3) : 0 < oaA f pl ch r x a b ↔ 0 < f x ∧ (cnt8 pl a b = 0 ∨ ∃ y : Int, a ≤ y ∧ y < b ∧ 0 < f y ∧ 0 < chA ch (rd8 pl x) (rd8 pl y) 0) := by
  have hx := hf x
  have hpp := pts_pos (r := r - 1) (by omega) (by omega)
  have hsp := sumN_pos (f := fun i => f (a + i) * chA ch (rd8 pl x) (rd8 pl (a + i)) 0) (b - a).toNat (fun i => Int.mul_nonneg (hf _) (chA_in hch _ _).1)
  unfold oaA
  by_cases e : f x = 0
  · rw [if_pos e]
    exact ⟨fun h => absurd h (by decide), fun h => by omega⟩
  · rw [if_neg e]
    have hx1 : 0 < f x := by omega
    by_cases c : cnt8 pl a b = 0
    · rw [if_pos c]
      have := Int.mul_pos hx1 hpp
      exact ⟨fun _ => ⟨hx1, Or.inl c⟩, fun _ => by omega⟩
    · rw [if_neg c]
      constructor
      · intro h
        have hs : 0 < sumN (fun i => f (a + i) * chA ch (rd8 pl x) (rd8 pl (a + i)) 0) (b - a).toNat := Int.not_le.mp (fun q => by have q2 := Int.mul_le_mul_of_nonneg_left q hx; rw [Int.mul_zero] at q2; exact absurd h (Int.not_lt.mpr q2))
        obtain ⟨i, i1, i2⟩ := hsp.mp hs
        have c0 := (chA_in hch (rd8 pl x) (rd8 pl (a + i))).1
        have f0 := hf (a + i)
        refine ⟨hx1, Or.inr ⟨a + i, by omega, by omega, ?_, ?_⟩⟩
        · by_cases z : f (a + i) = 0
          · rw [z, Int.zero_mul] at i2; exact absurd i2 (by decide)
          · omega
        · by_cases z : chA ch (rd8 pl x) (rd8 pl (a + i)) 0 = 0
          · rw [z, Int.mul_zero] at i2; exact absurd i2 (by decide)
          · omega
      · rintro ⟨-, h | ⟨y, y0, y1, y2, y3⟩⟩
        · exact absurd h c
        · exact Int.mul_pos hx1 (hsp.mpr ⟨(y - a).toNat, by omega, by rw [show a + (((y - a).toNat : Nat) : Int) = y by omega]; exact Int.mul_pos y2 y3⟩)
theorem odR_8 {pl wi ch : List Int} {sz : Int} (hch : chB ch) : ∀ (r : Nat), r ≤ 3 → ∀ x, 0 < odR pl wi ch sz r x → rd8 pl x ≠ 8
  | 0, _, x, h => fun e => by unfold odR at h; rw [if_pos e] at h; exact absurd h (by decide)
  | r + 1, hr, x, h => by
    have ih := odR_8 (pl := pl) (wi := wi) (sz := sz) hch r (by omega) x
    have hn := fun y => (odR_in (pl := pl) (wi := wi) (sz := sz) hch r (by omega) y).1
    unfold odR wmV at h
    split at h
    · rename_i h8
      split at h
      · rename_i hq; rw [hq]; exact h8
      · exact absurd h (by decide)
    · split at h
      · exact ih ((oa_pos hch hn (by omega) (by omega)).mp h).1
      · exact ih ((oa_pos hch hn (by omega) (by omega)).mp h).1
/-- who can come from the places lo .. hi - 1 -/
def CAN (pl : List Int) (f : Int → Int) (lo hi p : Int) : Prop := ∃ x : Int, lo ≤ x ∧ x < hi ∧ rd8 pl x = p ∧ 0 < f x
def NdOk (pl : List Int) (f : Int → Int) (a w : Int) (u : Nat) : Prop := u < 256 ∧ (∀ p : Nat, p < 8 → (u.testBit p = true ↔ CAN pl f a (a + w) p)) ∧ (u = 0 ↔ ∀ x : Int, a ≤ x → x < a + w → rd8 pl x = 8)
theorem tb_out {u : Nat} (hu : u < 256) {i : Nat} (hi : 8 ≤ i) : u.testBit i = false := Nat.testBit_lt_two_pow (Nat.lt_of_lt_of_le hu (show 2 ^ 8 ≤ 2 ^ i from Nat.pow_le_pow_right (by decide) hi))
theorem tb_zero {u : Nat} (hu : u < 256) : u = 0 ↔ ∀ p : Nat, p < 8 → ¬ u.testBit p = true := by
  constructor
  · rintro rfl p _ h
    rw [Nat.zero_testBit] at h
    exact absurd h (by decide)
  · intro h
    apply Nat.eq_of_testBit_eq
    intro i
    rw [Nat.zero_testBit]
    by_cases e : i < 8
    · exact Bool.eq_false_iff.mpr (h i e)
    · exact tb_out hu (by omega)
theorem nd_place {pl wi ch : List Int} {sz x : Int} (hv : v8 pl) : NdOk pl (odR pl wi ch sz 0) x 1 (bitA (rd8 pl x)) := by
  have h8 := rd8_in hv x
  refine ⟨bitA_lt h8.1 h8.2, fun p hp => ?_, ?_⟩
  · rw [bitA_tb h8.1 p hp]
    constructor
    · intro e
      exact ⟨x, by omega, by omega, e, by unfold odR; rw [if_neg (by omega)]; decide⟩
    · rintro ⟨y, y0, y1, y2, -⟩
      rw [show x = y by omega]; exact y2
  · constructor
    · intro e y y0 y1
      rw [show y = x by omega]
      unfold bitA at e
      split at e
      · assumption
      · have := Nat.two_pow_pos (rd8 pl x).toNat
        omega
    · intro e
      unfold bitA
      rw [if_pos (e x (by omega) (by omega))]
theorem beB_iff {ch : List Int} {u w a : Nat} : ∀ n, beB ch u w a n = true ↔ u.testBit a = true ∧ ∃ b, b < n ∧ w.testBit b = true ∧ 0 < gI ch (8 * (a : Int) + b)
  | 0 => by
    constructor
    · intro h; exact absurd (show false = true from h) (by decide)
    · rintro ⟨-, b, h, -⟩; omega
  | n + 1 => by
    unfold beB
    rw [Bool.or_eq_true, beB_iff n, Bool.and_eq_true, Bool.and_eq_true, decide_eq_true_eq]
    constructor
    · rintro (⟨h1, b, h2, h3⟩ | ⟨⟨h1, h2⟩, h3⟩)
      · exact ⟨h1, b, by omega, h3⟩
      · exact ⟨h1, n, by omega, h2, h3⟩
    · rintro ⟨h1, b, h2, h3, h4⟩
      by_cases e : b = n
      · subst e; exact Or.inr ⟨⟨h1, h3⟩, h4⟩
      · exact Or.inl ⟨h1, b, by omega, h3, h4⟩
theorem beN_tb {ch : List Int} {u w p : Nat} (hp : p < 8) : (beN ch u w).testBit p = true ↔ u.testBit p = true ∧ ∃ b, b < 8 ∧ w.testBit b = true ∧ 0 < gI ch (8 * (p : Int) + b) := by
  unfold beN
  rw [mkM_tb, beB_iff]
  exact ⟨fun h => h.2, fun h => ⟨hp, h⟩⟩
theorem tb_lor (u w i : Nat) : (u ||| w).testBit i = true ↔ (u.testBit i = true ∨ w.testBit i = true) := by
  rw [Nat.testBit_or, Bool.or_eq_true]
theorem tb_p2 (q p : Nat) : (2 ^ q).testBit p = true ↔ q = p := by
  rw [Nat.testBit_two_pow]; simp
/-- chances of two add to twelve -/
def chS (ch : List Int) : Prop := ∀ x y : Nat, x < 8 → y < 8 → x ≠ y → gI ch (8 * (x : Int) + y) + gI ch (8 * (y : Int) + x) = 12
theorem chA_g {ch : List Int} {x y : Nat} (hx : x < 8) (hy : y < 8) : chA ch x y 0 = gI ch (8 * (x : Int) + y) := by
  unfold chA
  rw [if_pos (by omega), Int.mul_comm]
theorem CAN_p {pl : List Int} {f : Int → Int} {lo hi p : Int} (hv : v8 pl) (h8 : ∀ x, 0 < f x → rd8 pl x ≠ 8) (h : CAN pl f lo hi p) : 0 ≤ p ∧ p < 8 := by
  obtain ⟨x, -, -, h3, h4⟩ := h
  have := rd8_in hv x
  have := h8 x h4
  omega
theorem nd_step {pl ch : List Int} {f g : Int → Int} {a w wn r : Int} {l t : Nat} (hv : v8 pl) (hch : chB ch) (hcs : chS ch) (hf : ∀ y, 0 ≤ f y) (hf8 : ∀ x, 0 < f x → rd8 pl x ≠ 8) (h1 : 1 ≤ r) (h3 : r ≤ 3) (hw : w = p2A (r - 1)) (hw1 : 1 ≤ w) (hg : ∀ x, a ≤ x → x < a + 2 * w → g x = wmV f pl ch wn r a x) (hL : NdOk pl f a w l) (hT : NdOk pl f (a + w) w t)
    (hdis : ∀ x y : Int, a ≤ x → x < a + 2 * w → a ≤ y → y < a + 2 * w → rd8 pl x = rd8 pl y → rd8 pl x ≠ 8 → x = y)
    (hwn0 : 0 ≤ wn ∧ wn ≤ 8) (hwn : wn ≠ 8 → (∃ x, a ≤ x ∧ x < a + 2 * w ∧ rd8 pl x = wn) ∧ (∃ x, a ≤ x ∧ x < a + w ∧ rd8 pl x ≠ 8) ∧ (∃ x, a + w ≤ x ∧ x < a + 2 * w ∧ rd8 pl x ≠ 8)) : NdOk pl g a (2 * w) (wsF ch l t (tld wn)) := by
  obtain ⟨l1, l2, l3⟩ := hL
  obtain ⟨t1, t2, t3⟩ := hT
  rw [show a + w + w = a + 2 * w by omega] at t2 t3
  have hpp := p2h h1 h3
  have e2 : p2A r = 2 * w := by omega
  -- positive odds
  have gl : wn = 8 → ∀ x, a ≤ x → x < a + w → (0 < g x ↔ 0 < f x ∧ (t = 0 ∨ ∃ y : Int, a + w ≤ y ∧ y < a + 2 * w ∧ 0 < f y ∧ 0 < chA ch (rd8 pl x) (rd8 pl y) 0)) := fun z x x0 x1 => by
    rw [hg x x0 (by omega)]
    unfold wmV
    rw [if_neg (fun z2 => z2 z), if_pos (by omega), oa_pos hch hf h1 h3, ← hw, e2, cnt8_z, ← t3]
  have gt : wn = 8 → ∀ x, a + w ≤ x → x < a + 2 * w → (0 < g x ↔ 0 < f x ∧ (l = 0 ∨ ∃ y : Int, a ≤ y ∧ y < a + w ∧ 0 < f y ∧ 0 < chA ch (rd8 pl x) (rd8 pl y) 0)) := fun z x x0 x1 => by
    rw [hg x (by omega) (by omega)]
    unfold wmV
    rw [if_neg (fun z2 => z2 z), if_neg (by omega), oa_pos hch hf h1 h3, ← hw, cnt8_z, ← l3]
  have gw : wn ≠ 8 → ∀ x, a ≤ x → x < a + 2 * w → (0 < g x ↔ rd8 pl x = wn) := fun z x x0 x1 => by
    have hq := pts_pos (r := r) (by omega) (by omega)
    rw [hg x x0 x1]
    unfold wmV
    rw [if_pos z]
    split
    · exact ⟨fun _ => by assumption, fun _ => hq⟩
    · exact ⟨fun q => absurd q (by decide), fun q => absurd q (by assumption)⟩
  have hlt : (wn ≠ 8 → l ≠ 0 ∧ t ≠ 0) := fun z => by
    obtain ⟨-, ⟨x, x0, x1, x2⟩, ⟨y, y0, y1, y2⟩⟩ := hwn z
    exact ⟨fun q => x2 (l3.mp q x x0 x1), fun q => y2 (t3.mp q y y0 y1)⟩
  have nl0 : l = 0 → ∀ x, a ≤ x → x < a + w → ¬ 0 < f x := fun z x x0 x1 q => hf8 x q (l3.mp z x x0 x1)
  have nt0 : t = 0 → ∀ x, a + w ≤ x → x < a + 2 * w → ¬ 0 < f x := fun z x x0 x1 q => hf8 x q (t3.mp z x x0 x1)
  have htw : tld wn ≠ -9 ↔ wn ≠ 8 := by unfold tld; split <;> omega
  have htv : wn ≠ 8 → (tld wn).toNat = wn.toNat := fun z => by unfold tld; rw [if_neg z]
  have hu := wsF_lt (ch := ch) (w := tld wn) l1 t1 (by unfold tld; split <;> omega)
  refine ⟨hu, fun p hp => ?_, ?_⟩
  · unfold wsF
    by_cases c : l = 0 ∨ t = 0
    · have z8 : wn = 8 := Decidable.byContradiction (fun z => by have := hlt z; omega)
      rw [if_pos c, tb_lor, l2 p hp, t2 p hp]
      constructor
      · rintro (⟨x, x0, x1, x2, x3⟩ | ⟨x, x0, x1, x2, x3⟩)
        · have : t = 0 := by rcases c with c | c; exact absurd x3 (nl0 c x x0 x1); exact c
          exact ⟨x, x0, by omega, x2, (gl z8 x x0 x1).mpr ⟨x3, Or.inl this⟩⟩
        · have : l = 0 := by rcases c with c | c; exact c; exact absurd x3 (nt0 c x x0 x1)
          exact ⟨x, by omega, x1, x2, (gt z8 x x0 x1).mpr ⟨x3, Or.inl this⟩⟩
      · rintro ⟨x, x0, x1, x2, x3⟩
        by_cases q : x < a + w
        · exact Or.inl ⟨x, x0, q, x2, ((gl z8 x x0 q).mp x3).1⟩
        · exact Or.inr ⟨x, by omega, x1, x2, ((gt z8 x (by omega) x1).mp x3).1⟩
    · rw [if_neg c]
      by_cases z8 : wn = 8
      · rw [if_neg (fun z => htw.mp z z8), tb_lor, beN_tb hp, beN_tb hp, l2 p hp, t2 p hp]
        constructor
        · rintro (⟨⟨x, x0, x1, x2, x3⟩, b, b1, b2, b3⟩ | ⟨⟨x, x0, x1, x2, x3⟩, b, b1, b2, b3⟩)
          · obtain ⟨y, y0, y1, y2, y3⟩ := (t2 b b1).mp b2
            exact ⟨x, x0, by omega, x2, (gl z8 x x0 x1).mpr ⟨x3, Or.inr ⟨y, y0, y1, y3, by rw [x2, y2, chA_g hp b1]; exact b3⟩⟩⟩
          · obtain ⟨y, y0, y1, y2, y3⟩ := (l2 b b1).mp b2
            exact ⟨x, by omega, x1, x2, (gt z8 x x0 x1).mpr ⟨x3, Or.inr ⟨y, y0, y1, y3, by rw [x2, y2, chA_g hp b1]; exact b3⟩⟩⟩
        · rintro ⟨x, x0, x1, x2, x3⟩
          by_cases q : x < a + w
          · obtain ⟨f1, f2 | ⟨y, y0, y1, y2, y3⟩⟩ := (gl z8 x x0 q).mp x3
            · exact absurd (Or.inr f2) c
            · have yp := rd8_in hv y
              have y8 := hf8 y y2
              obtain ⟨b, hb⟩ := Int.eq_ofNat_of_zero_le yp.1
              rw [x2, hb, chA_g hp (by omega)] at y3
              exact Or.inl ⟨⟨x, x0, q, x2, f1⟩, b, by omega, (t2 b (by omega)).mpr ⟨y, y0, y1, hb, y2⟩, y3⟩
          · obtain ⟨f1, f2 | ⟨y, y0, y1, y2, y3⟩⟩ := (gt z8 x (by omega) x1).mp x3
            · exact absurd (Or.inl f2) c
            · have yp := rd8_in hv y
              have y8 := hf8 y y2
              obtain ⟨b, hb⟩ := Int.eq_ofNat_of_zero_le yp.1
              rw [x2, hb, chA_g hp (by omega)] at y3
              exact Or.inr ⟨⟨x, by omega, x1, x2, f1⟩, b, by omega, (l2 b (by omega)).mpr ⟨y, y0, y1, hb, y2⟩, y3⟩
      · rw [if_pos (htw.mpr z8), htv z8, tb_p2]
        constructor
        · intro e
          obtain ⟨⟨x, x0, x1, x2⟩, -⟩ := hwn z8
          exact ⟨x, x0, x1, by omega, (gw z8 x x0 x1).mpr x2⟩
        · rintro ⟨x, x0, x1, x2, x3⟩
          have := (gw z8 x x0 x1).mp x3
          omega
  · have hall : (∀ x : Int, a ≤ x → x < a + 2 * w → rd8 pl x = 8) ↔ (l = 0 ∧ t = 0) := by
      constructor
      · intro h
        exact ⟨l3.mpr (fun x x0 x1 => h x x0 (by omega)), t3.mpr (fun x x0 x1 => h x (by omega) x1)⟩
      · rintro ⟨h1, h2⟩ x x0 x1
        by_cases q : x < a + w
        · exact l3.mp h1 x x0 q
        · exact t3.mp h2 x (by omega) x1
    rw [hall]
    unfold wsF
    by_cases c : l = 0 ∨ t = 0
    · rw [if_pos c]
      constructor
      · intro e
        have zz := (tb_zero (Nat.or_lt_two_pow (n := 8) l1 t1)).mp e
        exact ⟨(tb_zero l1).mpr (fun p hp q => zz p hp ((tb_lor _ _ _).mpr (Or.inl q))), (tb_zero t1).mpr (fun p hp q => zz p hp ((tb_lor _ _ _).mpr (Or.inr q)))⟩
      · rintro ⟨rfl, rfl⟩; rfl
    · rw [if_neg c]
      have nl : l ≠ 0 := fun z => c (Or.inl z)
      have nt : t ≠ 0 := fun z => c (Or.inr z)
      by_cases z8 : wn = 8
      · rw [if_neg (fun z => htw.mp z z8)]
        refine ⟨fun e => ?_, fun e => absurd e.1 nl⟩
        exfalso
        have b1 : beN ch l t < 2 ^ 8 := mkM_lt _ 8
        have b2 : beN ch t l < 2 ^ 8 := mkM_lt _ 8
        have zz := (tb_zero (Nat.or_lt_two_pow (n := 8) b1 b2)).mp e
        obtain ⟨p, hp, pp⟩ : ∃ p : Nat, p < 8 ∧ l.testBit p = true := Decidable.byContradiction (fun q => nl ((tb_zero l1).mpr (fun p hp pp => q ⟨p, hp, pp⟩)))
        obtain ⟨b, hb, bb⟩ : ∃ p : Nat, p < 8 ∧ t.testBit p = true := Decidable.byContradiction (fun q => nt ((tb_zero t1).mpr (fun p hp pp => q ⟨p, hp, pp⟩)))
        have hne : p ≠ b := fun q => by
          obtain ⟨x, x0, x1, x2, x3⟩ := (l2 p hp).mp pp
          obtain ⟨y, y0, y1, y2, y3⟩ := (t2 b hb).mp bb
          have := hdis x y x0 (by omega) (by omega) y1 (by omega) (by omega)
          omega
        have h12 := hcs p b hp hb hne
        have hq := zz p hp
        have hq2 := zz b hb
        rw [tb_lor, beN_tb hp, beN_tb hp] at hq
        rw [tb_lor, beN_tb hb, beN_tb hb] at hq2
        by_cases z : 0 < gI ch (8 * (p : Int) + b)
        · exact hq (Or.inl ⟨pp, b, hb, bb, z⟩)
        · exact hq2 (Or.inr ⟨bb, p, hp, pp, by omega⟩)
      · rw [if_pos (htw.mpr z8)]
        refine ⟨fun e => ?_, fun e => absurd e.1 nl⟩
        have := Nat.two_pow_pos (tld wn).toNat
        omega
