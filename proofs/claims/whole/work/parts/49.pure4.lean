/-! parts of a whole say the same as odds (rows laid by wip/whole) -/
/-- a node's parts P of the whole W are the odds f of K -/
def FrOk (pl : List Int) (f : Int → Int) (a w : Int) (P : Int → Int) (W K : Int) : Prop := 0 < W ∧ (∀ p : Int, 0 ≤ p → p < 8 → 0 ≤ P p) ∧ (∀ x : Int, a ≤ x → x < a + w → rd8 pl x ≠ 8 → P (rd8 pl x) * K = f x * W) ∧ (∀ p : Nat, p < 8 → (∀ x : Int, a ≤ x → x < a + w → rd8 pl x ≠ p) → P p = 0)
theorem fr_sum {pl ch : List Int} {f P : Int → Int} {a w W K p : Int} (hv : v8 pl) (hf : ∀ y, 0 ≤ f y) (hf8 : ∀ x, 0 < f x → rd8 pl x ≠ 8) (hw : 0 ≤ w) (F : FrOk pl f a w P W K) (hdis : ∀ x y : Int, a ≤ x → x < a + w → a ≤ y → y < a + w → rd8 pl x = rd8 pl y → rd8 pl x ≠ 8 → x = y) (p0 : 0 ≤ p) (p8 : p < 8) : sumN (fun b => P b * gI ch (8 * p + b)) 8 * K = sumN (fun i => f (a + i) * chA ch p (rd8 pl (a + i)) 0) w.toNat * W := by
  obtain ⟨-, -, F3, F4⟩ := F
  have hww : a + ((w.toNat : Nat) : Int) = a + w := by omega
  have e := sum_reix (pl := pl) (a := a) (w := w.toNat) (P := fun b => P b * gI ch (8 * p + b)) (by rw [hww]; exact hdis) (fun x => rd8_in hv x) (fun q hq hn => by show P q * _ = 0; rw [F4 q hq (by rw [hww] at hn; exact hn), Int.zero_mul])
  rw [e, Int.mul_comm _ K, ← sumN_mul, Int.mul_comm _ W, ← sumN_mul]
  refine sumN_congr _ (fun i hi => ?_)
  have h8 := rd8_in hv (a + i)
  by_cases q : rd8 pl (a + i) = 8
  · have z : f (a + i) = 0 := by
      have h0 := hf (a + i)
      by_cases t : 0 < f (a + i)
      · exact absurd q (hf8 _ t)
      · omega
    rw [if_pos q, z, Int.mul_zero, Int.zero_mul, Int.mul_zero]
  · rw [if_neg q]
    have e3 := F3 (a + i) (by omega) (by omega) q
    have e4 : chA ch p (rd8 pl (a + i)) 0 = gI ch (8 * p + rd8 pl (a + i)) := by unfold chA; rw [if_pos (by omega), Int.mul_comm]
    rw [e4]
    generalize gI ch (8 * p + rd8 pl (a + i)) = c
    generalize P (rd8 pl (a + i)) = Q at *
    generalize f (a + i) = F at *
    have l : K * (Q * c) = (Q * K) * c := by ac_rfl
    have r : W * (F * c) = (F * W) * c := by ac_rfl
    rw [l, r, e3]
theorem oa_all {f : Int → Int} {pl ch : List Int} {r x a b : Int} (hc : ¬ cnt8 pl a b = 0) : oaA f pl ch r x a b = f x * sumN (fun i => f (a + i) * chA ch (rd8 pl x) (rd8 pl (a + i)) 0) (b - a).toNat := by
  unfold oaA
  split
  · rename_i h; rw [h, Int.zero_mul]
  · rfl
theorem oa_bye {f : Int → Int} {pl ch : List Int} {r x a b : Int} (hc : cnt8 pl a b = 0) : oaA f pl ch r x a b = f x * pts (r - 1) * 12 := by
  unfold oaA
  split
  · rename_i h; rw [h, Int.zero_mul, Int.zero_mul]
  · rfl
theorem fr_mul {A T K fx S W1 W2 : Int} (e1 : A * K = fx * W1) (e2 : T * K = S * W2) : A * T * (12 * K * K) = fx * S * (12 * W1 * W2) := by
  have l : A * T * (12 * K * K) = 12 * ((A * K) * (T * K)) := by ac_rfl
  have r : fx * S * (12 * W1 * W2) = 12 * ((fx * W1) * (S * W2)) := by ac_rfl
  rw [l, r, e1, e2]
theorem fr_bye {A K fx W1 : Int} (e1 : A * K = fx * W1) : A * (12 * K * K) = fx * K * 12 * W1 := by
  have l : A * (12 * K * K) = 12 * K * (A * K) := by ac_rfl
  have r : fx * K * 12 * W1 = 12 * K * (fx * W1) := by ac_rfl
  rw [l, r, e1]
/-- the model's part and whole of a match -/
def frP (ch : List Int) (P1 P2 : Int → Int) (dc : Prop) [Decidable dc] (wn : Int) (f1 f2 : Prop) [Decidable f1] [Decidable f2] (p : Int) : Int := if dc then (if p = wn then 1 else 0) else if f1 ∧ f2 then sumN (fun b => (P1 p * P2 b + P2 p * P1 b) * gI ch (8 * p + b)) 8 else P1 p + P2 p
def frW (W1 W2 : Int) (dc f1 f2 : Prop) [Decidable dc] [Decidable f1] [Decidable f2] : Int := if dc then 1 else if ¬ f1 then W2 else if ¬ f2 then W1 else 12 * W1 * W2
theorem fr_step {pl ch : List Int} {f g P1 P2 : Int → Int} {a w wn r W1 W2 K : Int} {f1 f2 : Prop} [Decidable f1] [Decidable f2] (hv : v8 pl) (hch : chB ch) (hf : ∀ y, 0 ≤ f y) (hf8 : ∀ x, 0 < f x → rd8 pl x ≠ 8) (h1 : 1 ≤ r) (h3 : r ≤ 3) (hw : w = p2A (r - 1)) (hw1 : 1 ≤ w) (hK : K = pts (r - 1)) (hK2 : pts r = 12 * K * K) (hg : ∀ x, a ≤ x → x < a + 2 * w → g x = wmV f pl ch wn r a x) (F1 : FrOk pl f a w P1 W1 K) (F2 : FrOk pl f (a + w) w P2 W2 K)
    (hdis : ∀ x y : Int, a ≤ x → x < a + 2 * w → a ≤ y → y < a + 2 * w → rd8 pl x = rd8 pl y → rd8 pl x ≠ 8 → x = y) (hwn : wn ≠ 8 → ∃ x, a ≤ x ∧ x < a + 2 * w ∧ rd8 pl x = wn)
    (hf1 : f1 ↔ ∃ x, a ≤ x ∧ x < a + w ∧ rd8 pl x ≠ 8) (hf2 : f2 ↔ ∃ x, a + w ≤ x ∧ x < a + 2 * w ∧ rd8 pl x ≠ 8) : FrOk pl g a (2 * w) (frP ch P1 P2 (wn ≠ 8) wn f1 f2) (frW W1 W2 (wn ≠ 8) f1 f2) (pts r) := by
  have hpp := p2h h1 h3
  have e2w : p2A r = 2 * w := by omega
  have E1 := fun (p : Int) p0 p8 => fr_sum (ch := ch) (p := p) hv hf hf8 (by omega : 0 ≤ w) F1 (fun x y x0 x1 y0 y1 => hdis x y x0 (by omega) y0 (by omega)) p0 p8
  have E2 := fun (p : Int) p0 p8 => fr_sum (ch := ch) (p := p) hv hf hf8 (by omega : 0 ≤ w) F2 (fun x y x0 x1 y0 y1 => hdis x y (by omega) (by omega) (by omega) (by omega)) p0 p8
  obtain ⟨a1, a2, a3, a4⟩ := F1
  obtain ⟨b1, b2, b3, b4⟩ := F2
  rw [show a + w + w = a + 2 * w by omega] at b3 b4
  have n1 : f1 ↔ ¬ cnt8 pl a (a + w) = 0 := by
    rw [hf1, cnt8_z]
    exact ⟨fun ⟨x, x0, x1, x2⟩ h => x2 (h x x0 x1), fun h => Classical.byContradiction (fun q => h (fun x x0 x1 => Classical.byContradiction (fun z => q ⟨x, x0, x1, z⟩)))⟩
  have n2 : f2 ↔ ¬ cnt8 pl (a + w) (a + 2 * w) = 0 := by
    rw [hf2, cnt8_z]
    exact ⟨fun ⟨x, x0, x1, x2⟩ h => x2 (h x x0 x1), fun h => Classical.byContradiction (fun q => h (fun x x0 x1 => Classical.byContradiction (fun z => q ⟨x, x0, x1, z⟩)))⟩
  refine ⟨?_, fun p p0 p8 => ?_, fun x x0 x1 x8 => ?_, fun p hp hn => ?_⟩
  · unfold frW
    have := Int.mul_pos (Int.mul_pos (by decide : (0 : Int) < 12) a1) b1
    (repeat' split) <;> first | assumption | decide
  · unfold frP
    split
    · split <;> decide
    · split
      · have z : ∀ i : Nat, i < 8 → 0 ≤ (P1 p * P2 i + P2 p * P1 i) * gI ch (8 * p + i) := fun i hi => Int.mul_nonneg (Int.add_nonneg (Int.mul_nonneg (a2 p p0 p8) (b2 i (by omega) (by omega))) (Int.mul_nonneg (b2 p p0 p8) (a2 i (by omega) (by omega)))) (hch _).1
        have : ∀ n, n ≤ 8 → 0 ≤ sumN (fun b : Nat => (P1 p * P2 b + P2 p * P1 b) * gI ch (8 * p + b)) n := fun n => by
          induction n with
          | zero => intro _; exact Int.le_refl _
          | succ n ih => intro hn; exact Int.add_nonneg (ih (by omega)) (z n (by omega))
        exact this 8 (by omega)
      · exact Int.add_nonneg (a2 p p0 p8) (b2 p p0 p8)
  · have h8 := rd8_in hv x
    obtain ⟨q, hq⟩ := Int.eq_ofNat_of_zero_le h8.1
    rw [hg x x0 x1]
    unfold wmV frP frW
    by_cases c : wn ≠ 8
    · rw [if_pos c, if_pos c, if_pos c]
      split
      · rw [Int.one_mul, Int.mul_one]
      · rw [Int.zero_mul, Int.zero_mul]
    · rw [if_neg c, if_neg c, if_neg c, ← hw, e2w]
      by_cases s : x < a + w
      · have P20 : P2 (rd8 pl x) = 0 := by rw [hq]; exact b4 q (by omega) (fun y y0 y1 z => by have := hdis x y x0 x1 (by omega) y1 (by omega) x8; omega)
        have F1x : f1 := hf1.mpr ⟨x, x0, s, x8⟩
        have e3 := a3 x x0 s x8
        rw [if_pos s, if_neg (show ¬ ¬ f1 from fun z => z F1x), P20, hK2]
        by_cases t : f2
        · rw [if_pos (show f1 ∧ f2 from ⟨F1x, t⟩), if_neg (show ¬ ¬ f2 from fun z => z t), oa_all (n2.mp t)]
          have z : sumN (fun b : Nat => (P1 (rd8 pl x) * P2 b + 0 * P1 b) * gI ch (8 * rd8 pl x + b)) 8 = P1 (rd8 pl x) * sumN (fun b : Nat => P2 b * gI ch (8 * rd8 pl x + b)) 8 := by
            rw [← sumN_mul]
            exact sumN_congr 8 (fun b _ => by rw [Int.zero_mul, Int.add_zero, Int.mul_assoc])
          have e4 := E2 (rd8 pl x) h8.1 (by omega)
          rw [z, show (a + 2 * w - (a + w)).toNat = w.toNat by omega]
          exact fr_mul e3 e4
        · rw [if_neg (show ¬ (f1 ∧ f2) from fun z => t z.2), if_pos (show ¬ f2 from t), oa_bye (Classical.byContradiction (fun z => t (n2.mpr z))), Int.add_zero, ← hK]
          exact fr_bye e3
      · have P10 : P1 (rd8 pl x) = 0 := by rw [hq]; exact a4 q (by omega) (fun y y0 y1 z => by have := hdis x y x0 x1 y0 (by omega) (by omega) x8; omega)
        have F2x : f2 := hf2.mpr ⟨x, by omega, x1, x8⟩
        have e3 := b3 x (by omega) x1 x8
        rw [if_neg s, P10, hK2]
        by_cases t : f1
        · rw [if_pos (show f1 ∧ f2 from ⟨t, F2x⟩), if_neg (show ¬ ¬ f1 from fun z => z t), if_neg (show ¬ ¬ f2 from fun z => z F2x), oa_all (n1.mp t)]
          have z : sumN (fun b : Nat => (0 * P2 b + P2 (rd8 pl x) * P1 b) * gI ch (8 * rd8 pl x + b)) 8 = P2 (rd8 pl x) * sumN (fun b : Nat => P1 b * gI ch (8 * rd8 pl x + b)) 8 := by
            rw [← sumN_mul]
            exact sumN_congr 8 (fun b _ => by rw [Int.zero_mul, Int.zero_add, Int.mul_assoc])
          have e4 := E1 (rd8 pl x) h8.1 (by omega)
          rw [z, show (a + w - a).toNat = w.toNat by omega, show 12 * W1 * W2 = 12 * W2 * W1 by ac_rfl]
          exact fr_mul e3 e4
        · rw [if_neg (show ¬ (f1 ∧ f2) from fun z => t z.1), if_pos (show ¬ f1 from t), oa_bye (Classical.byContradiction (fun z => t (n1.mpr z))), Int.zero_add, ← hK]
          exact fr_bye e3
  · have h10 : P1 p = 0 := a4 p hp (fun x x0 x1 => hn x x0 (by omega))
    have h20 : P2 p = 0 := b4 p hp (fun x x0 x1 => hn x (by omega) x1)
    unfold frP
    rw [h10, h20]
    split
    · rename_i c
      obtain ⟨x, x0, x1, x2⟩ := hwn c
      rw [if_neg (fun z => hn x x0 x1 (by omega))]
    · split
      · exact (sumN_congr 8 (fun b _ => by rw [Int.zero_mul, Int.zero_mul, Int.add_zero, Int.zero_mul])).trans (sumN_zero 8)
      · rfl
