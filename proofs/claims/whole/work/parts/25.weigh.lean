/-! a cup is weighed (rows laid by wip/whole) -/
def chB (ch : List Int) : Prop := ∀ i : Int, 0 ≤ gI ch i ∧ gI ch i ≤ 12
theorem chA_in {ch : List Int} (hch : chB ch) (x y : Int) : 0 ≤ chA ch x y 0 ∧ chA ch x y 0 ≤ 12 := by
  unfold chA
  split
  · exact hch _
  · omega
theorem rd8_in {l : List Int} (hl : ∀ i : Int, 0 ≤ gI l i ∧ gI l i ≤ 8) (x : Int) : 0 ≤ rd8 l x ∧ rd8 l x ≤ 8 := by
  unfold rd8
  split
  · exact hl _
  · omega
theorem mulB {x y X Y : Int} (hx : 0 ≤ x ∧ x ≤ X) (hy : 0 ≤ y ∧ y ≤ Y) : 0 ≤ x * y ∧ x * y ≤ X * Y :=
  ⟨Int.mul_nonneg hx.1 hy.1, Int.mul_le_mul hx.2 hy.2 hy.1 (Int.le_trans hx.1 hx.2)⟩
theorem pts_in {r : Int} (h0 : 0 ≤ r) (h2 : r ≤ 2) : 0 ≤ pts r ∧ pts r ≤ 1728 := by
  rcases (show r = 0 ∨ r = 1 ∨ r = 2 by omega) with rfl | rfl | rfl <;> decide
/-- the odds at a place x against those at the places a .. b - 1 -/
def oaA (f : Int → Int) (pl ch : List Int) (r x a b : Int) : Int :=
  if f x = 0 then 0 else if cnt8 pl a b = 0 then f x * pts (r - 1) * 12 else f x * sumN (fun i => f (a + i) * chA ch (rd8 pl x) (rd8 pl (a + i)) 0) (b - a).toNat
def wmV (f : Int → Int) (pl ch : List Int) (w r a x : Int) : Int :=
  if w ≠ 8 then (if rd8 pl x = w then pts r else 0) else if x < a + p2A (r - 1) then oaA f pl ch r x (a + p2A (r - 1)) (a + p2A r) else oaA f pl ch r x a (a + p2A (r - 1))
def odR (pl wi ch : List Int) (sz : Int) : Nat → Int → Int
  | 0, x => if rd8 pl x = 8 then 0 else 1
  | r + 1, x => wmV (odR pl wi ch sz r) pl ch (rd8 wi (fmA sz (r + 1) + x / p2A (r + 1))) (r + 1) (x / p2A (r + 1) * p2A (r + 1)) x
theorem sumN_congr {f g : Nat → Int} : ∀ n : Nat, (∀ i, i < n → f i = g i) → sumN f n = sumN g n
  | 0, _ => rfl
  | n + 1, h => by unfold sumN; rw [sumN_congr n (fun i hi => h i (by omega)), h n (by omega)]
theorem oaA_congr {f g : Int → Int} {pl ch : List Int} {r x a b : Int} (hx : f x = g x) (h : ∀ y, a ≤ y → y < b → f y = g y) : oaA f pl ch r x a b = oaA g pl ch r x a b := by
  unfold oaA
  rw [hx]
  split
  · rfl
  · split
    · rfl
    · congr 1
      exact sumN_congr _ (fun i hi => by rw [h (a + i) (by omega) (by omega)])
theorem p2h {r : Int} (h1 : 1 ≤ r) (h3 : r ≤ 3) : p2A r = 2 * p2A (r - 1) ∧ 1 ≤ p2A (r - 1) ∧ p2A r ≤ 8 := by
  rcases (show r = 1 ∨ r = 2 ∨ r = 3 by omega) with rfl | rfl | rfl <;> decide
theorem wmV_congr {f g : Int → Int} {pl ch : List Int} {w r a x : Int} (h1 : 1 ≤ r) (h3 : r ≤ 3) (hx : a ≤ x) (hx2 : x < a + p2A r) (h : ∀ y, a ≤ y → y < a + p2A r → f y = g y) : wmV f pl ch w r a x = wmV g pl ch w r a x := by
  have := p2h h1 h3
  unfold wmV
  rw [oaA_congr (h x hx hx2) (fun y y1 y2 => h y (by omega) (by omega)), oaA_congr (h x hx hx2) (fun y y1 y2 => h y (by omega) (by omega))]
def bdA (r : Nat) : Int := if r = 0 then 1 else if r = 1 then 96 else if r = 2 then 884736 else 75144747810816
theorem oaA_in {f : Int → Int} {pl ch : List Int} {r x a b B : Int} (hch : chB ch) (hf : ∀ y, 0 ≤ f y ∧ f y ≤ B) (h1 : 1 ≤ r) (h3 : r ≤ 3) (hab : b - a ≤ 8) : 0 ≤ oaA f pl ch r x a b ∧ (oaA f pl ch r x a b ≤ B * (8 * (B * 12)) ∨ oaA f pl ch r x a b ≤ B * pts (r - 1) * 12) := by
  have hB : 0 ≤ B := Int.le_trans (hf 0).1 (hf 0).2
  have hB2 : 0 ≤ B * (8 * (B * 12)) := Int.mul_nonneg hB (by omega)
  unfold oaA
  split
  · exact ⟨Int.le_refl _, Or.inl hB2⟩
  · split
    · have := mulB (hf x) ⟨(pts_in (r := r - 1) (by omega) (by omega)).1, Int.le_refl _⟩
      exact ⟨by omega, Or.inr (by omega)⟩
    · have hs := sumN_le (f := fun i => f (a + i) * chA ch (rd8 pl x) (rd8 pl (a + i)) 0) (c := B * 12) (b - a).toNat (fun i _ => mulB (hf _) (chA_in hch _ _))
      have h8 : ((b - a).toNat : Int) * (B * 12) ≤ 8 * (B * 12) := Int.mul_le_mul_of_nonneg_right (by omega) (by omega)
      have := mulB (hf x) ⟨hs.1, Int.le_trans hs.2 h8⟩
      exact ⟨this.1, Or.inl this.2⟩
theorem odR_in {pl wi ch : List Int} {sz : Int} (hch : chB ch) : ∀ (r : Nat), r ≤ 3 → ∀ x, 0 ≤ odR pl wi ch sz r x ∧ odR pl wi ch sz r x ≤ bdA r
  | 0, _, x => by unfold odR; split <;> decide
  | r + 1, hr, x => by
    have ih := odR_in (pl := pl) (wi := wi) (sz := sz) hch r (by omega)
    have hpp := p2h (r := ((r : Int) + 1)) (by omega) (by omega)
    unfold odR wmV
    split
    · split
      · rcases (show r = 0 ∨ r = 1 ∨ r = 2 by omega) with rfl | rfl | rfl <;> decide
      · rcases (show r = 0 ∨ r = 1 ∨ r = 2 by omega) with rfl | rfl | rfl <;> decide
    · split
      all_goals
        rename_i hh hh2
        have hq := oaA_in (pl := pl) (r := (r : Int) + 1) (x := x) (a := x / p2A (r + 1) * p2A (r + 1) + p2A (r + 1 - 1)) (b := x / p2A (r + 1) * p2A (r + 1) + p2A (r + 1)) hch ih (by omega) (by omega) (by omega)
        have hq2 := oaA_in (pl := pl) (r := (r : Int) + 1) (x := x) (a := x / p2A (r + 1) * p2A (r + 1)) (b := x / p2A (r + 1) * p2A (r + 1) + p2A (r + 1 - 1)) hch ih (by omega) (by omega) (by omega)
        have hb : bdA r * (8 * (bdA r * 12)) ≤ bdA (r + 1) ∧ bdA r * pts ((r : Int) + 1 - 1) * 12 ≤ bdA (r + 1) := by
          rcases (show r = 0 ∨ r = 1 ∨ r = 2 by omega) with rfl | rfl | rfl <;> decide
        omega
theorem odA_set {od : List Int} {r x v r' x' : Int} (hl : od.length = 32) (hr0 : 0 ≤ r) (hr : r ≤ 3) (hx0 : 0 ≤ x) (hx : x < 8) : odA (sI od (r * 8 + x) v) r' x' = if r' = r ∧ x' = x then v else odA od r' x' := by
  unfold odA
  by_cases c : 0 ≤ x' ∧ x' < 8 ∧ 0 ≤ r' * 8 + x' ∧ r' * 8 + x' < 32
  · rw [if_pos c, if_pos c]
    by_cases e : r' = r ∧ x' = x
    · rw [if_pos e, e.1, e.2, gI_eq (by omega) (by omega)]
    · rw [if_neg e, gI_ne (by omega) (by omega) (by omega)]
  · rw [if_neg c, if_neg c, if_neg (by omega)]
theorem ct_oddsAgainst (d : Nat) {h : List mC} {k q : Nat} {sz n : Int} {pl wi od ch ro : List Int} (hB : BrAt h k sz pl wi od) (hR : RoAt h q n ch ro) (hp : h[0]? = some (mJ mPT)) (hch : chB ch) {r x a b : Int} (h1 : 1 ≤ r) (h3 : r ≤ 3) (hx0 : 0 ≤ x) (hx : x < sz) (ha : 0 ≤ a) (hab : a ≤ b) (hb : b ≤ sz) (hpl : ∀ i : Int, 0 ≤ gI pl i ∧ gI pl i ≤ 8) (hod : ∀ y, 0 ≤ y → y < sz → 0 ≤ odA od (r - 1) y ∧ odA od (r - 1) y ≤ 884736) : Rt (d + 2) mX0_oddsAgainst [mR k, mI r, mI x, mI a, mI b, mR q] h (some (mL (oaA (odA od (r - 1)) pl ch r x a b))) h := by
  obtain ⟨b0, b1, b2, b3, b4, b5, b6, b7, b8⟩ := id hB
  obtain ⟨r0, r1, r2, r3, r4, r5⟩ := id hR
  have hcx := hod x hx0 hx
  have hpt := pts_in (r := r - 1) (by omega) (by omega)
  have hm1 := mulB hcx hpt
  have hsum : ∀ j : Nat, j ≤ (b - a).toNat → 0 ≤ sumN (fun i => odA od (r - 1) (a + i) * chA ch (rd8 pl x) (rd8 pl (a + i)) 0) j ∧ sumN (fun i => odA od (r - 1) (a + i) * chA ch (rd8 pl x) (rd8 pl (a + i)) 0) j ≤ 8 * (884736 * 12) := fun j hj => by
    have := sumN_le (f := fun i => odA od (r - 1) (a + i) * chA ch (rd8 pl x) (rd8 pl (a + i)) 0) (c := 884736 * 12) j (fun i hi => mulB (hod _ (by omega) (by omega)) (chA_in hch _ _))
    omega
  have key : odA od (r - 1) x ≠ 0 → cnt8 pl a b ≠ 0 → ∀ (j : Nat), j ≤ (b - a).toNat → ∀ (c y : Int), y = a + j → c = sumN (fun i => odA od (r - 1) (a + i) * chA ch (rd8 pl x) (rd8 pl (a + i)) 0) j → Wp (d + 2) mX0_oddsAgainst 49 [mR k, mI r, mI x, mI a, mI b, mR q, mL (odA od (r - 1) x), mU, mL c, mU, mI y] [] h (0, 0) (fun r' h' => r' = some (mL (oaA (odA od (r - 1)) pl ch r x a b)) ∧ h' = h) := by
    intro hc0 hn0
    refine loop_up (b - a).toNat _ ?_ ?_
    · intro c y hy hc
      have hs := hsum _ (Nat.le_refl _)
      rw [← hc] at hs
      have hm2 := mulB hcx hs
      refine wp_il10 (q := 51) dX0_oddsAgainst_49 rfl (wp_il4 (q := 53) dX0_oddsAgainst_51 rfl (wp_icmp_ge (t := 94) (q := 56) dX0_oddsAgainst_53 rfl rfl (fun c53 => ?_) (fun c53 => ?_)))
      · refine wp_ll6 (q := 96) dX0_oddsAgainst_94 rfl (wp_ll8 (q := 98) dX0_oddsAgainst_96 rfl (wp_lmul (q := 99) dX0_oddsAgainst_98 rfl (by omega) (by omega) (wp_lret dX0_oddsAgainst_99 rfl ?_)))
        exact ⟨by unfold oaA; rw [if_neg hc0, if_neg hn0, hc], rfl⟩
      · exfalso; omega
    · intro j hj ih c y hy hc
      have hs := hsum j (by omega)
      have hs1 := hsum (j + 1) (by omega)
      have e1 : sumN (fun i => odA od (r - 1) (a + i) * chA ch (rd8 pl x) (rd8 pl (a + i)) 0) (j + 1) = sumN (fun i => odA od (r - 1) (a + i) * chA ch (rd8 pl x) (rd8 pl (a + i)) 0) j + odA od (r - 1) (a + j) * chA ch (rd8 pl x) (rd8 pl (a + j)) 0 := rfl
      rw [← hy, ← hc] at e1
      have hm3 := mulB (hod y (by omega) (by omega)) (chA_in hch (rd8 pl x) (rd8 pl y))
      have q1 := rd8_in hpl x
      have q2 := rd8_in hpl y
      refine wp_il10 (q := 51) dX0_oddsAgainst_49 rfl (wp_il4 (q := 53) dX0_oddsAgainst_51 rfl (wp_icmp_ge (t := 94) (q := 56) dX0_oddsAgainst_53 rfl rfl (fun c53 => ?_) (fun c53 => ?_)))
      · exfalso; omega
      · refine wp_ll8 (q := 58) dX0_oddsAgainst_56 rfl (wp_al0 (q := 59) dX0_oddsAgainst_58 rfl (wp_il1 (q := 60) dX0_oddsAgainst_59 rfl (wp_ic (q := 61) dX0_oddsAgainst_60 rfl (by decide) (by decide) (wp_isub (q := 62) dX0_oddsAgainst_61 rfl (by omega) (by omega) (wp_il10 (q := 64) dX0_oddsAgainst_62 rfl (wp_v2I (q := 67) dX0_oddsAgainst_64 rfl q41 (Nat.le_of_ble_eq_true rfl) rfl b0 b1 rfl rfl ((ct_oddsOf (d + 1) hB (by omega) (by omega) (by omega) (by omega))) (wp_al5 (q := 69) dX0_oddsAgainst_67 rfl (wp_al0 (q := 70) dX0_oddsAgainst_69 rfl (wp_il2 (q := 71) dX0_oddsAgainst_70 rfl (wp_v1I (q := 74) dX0_oddsAgainst_71 rfl q26 (Nat.le_of_ble_eq_true rfl) rfl b0 b1 rfl rfl (ct_playerAt (d + 1) hB) (wp_al0 (q := 75) dX0_oddsAgainst_74 rfl (wp_il10 (q := 77) dX0_oddsAgainst_75 rfl (wp_v1I (q := 80) dX0_oddsAgainst_77 rfl q26 (Nat.le_of_ble_eq_true rfl) rfl b0 b1 rfl rfl (ct_playerAt (d + 1) hB) ?_)))))))))))))
        refine wp_v2I (q := 83) dX0_oddsAgainst_80 rfl q43 (Nat.le_of_ble_eq_true rfl) rfl r0 r1 rfl rfl (ct_chanceOf (d + 1) hR (by omega) (by omega) (by omega) (by omega)) (wp_i2l (q := 84) dX0_oddsAgainst_83 rfl (wp_lmul (q := 85) dX0_oddsAgainst_84 rfl (by omega) (by omega) (wp_ladd (q := 86) dX0_oddsAgainst_85 rfl (by omega) (by omega) (wp_ls8 (q := 88) dX0_oddsAgainst_86 rfl rfl (wp_ii10 (q := 91) dX0_oddsAgainst_88 rfl rfl (by omega) (by omega) (wp_goto (q := 49) dX0_oddsAgainst_91 rfl ?_))))))
        exact ih _ _ (by omega) e1.symm
  show Wp _ mX0_oddsAgainst 0 [mR k, mI r, mI x, mI a, mI b, mR q, mU, mU, mU, mU, mU] [] h (0, 0) _
  refine wp_al0 (q := 1) dX0_oddsAgainst_0 rfl (wp_il1 (q := 2) dX0_oddsAgainst_1 rfl (wp_ic (q := 3) dX0_oddsAgainst_2 rfl (by decide) (by decide) (wp_isub (q := 4) dX0_oddsAgainst_3 rfl (by omega) (by omega) (wp_il2 (q := 5) dX0_oddsAgainst_4 rfl (wp_v2I (q := 8) dX0_oddsAgainst_5 rfl q41 (Nat.le_of_ble_eq_true rfl) rfl b0 b1 rfl rfl ((ct_oddsOf (d + 1) hB (by omega) (by omega) (by omega) (by omega))) (wp_ls6 (q := 10) dX0_oddsAgainst_8 rfl rfl (wp_ll6 (q := 12) dX0_oddsAgainst_10 rfl (wp_lc0 (q := 13) dX0_oddsAgainst_12 rfl (wp_lcmp_ne (q1 := 14) (t := 19) (q := 17) dX0_oddsAgainst_13 rfl dX0_oddsAgainst_14 rfl rfl (fun c14 => ?_) (fun c14 => ?_))))))))))
  · refine wp_al0 (q := 20) dX0_oddsAgainst_19 rfl (wp_il3 (q := 21) dX0_oddsAgainst_20 rfl (wp_il4 (q := 23) dX0_oddsAgainst_21 rfl (wp_v2I (q := 26) dX0_oddsAgainst_23 rfl q42 (Nat.le_of_ble_eq_true rfl) rfl b0 b1 rfl rfl (ct_playersIn d hB ha hab (by omega)) (wp_if_ne (t := 43) (q := 29) dX0_oddsAgainst_26 rfl rfl (fun c26 => ?_) (fun c26 => ?_)))))
    · refine wp_lc0 (q := 44) dX0_oddsAgainst_43 rfl (wp_ls8 (q := 46) dX0_oddsAgainst_44 rfl rfl (wp_il3 (q := 47) dX0_oddsAgainst_46 rfl (wp_is10 (q := 49) dX0_oddsAgainst_47 rfl rfl ?_)))
      exact key c14 c26 0 (Nat.zero_le _) 0 a (by omega) rfl
    · refine wp_ll6 (q := 31) dX0_oddsAgainst_29 rfl (wp_il1 (q := 32) dX0_oddsAgainst_31 rfl (wp_ic (q := 33) dX0_oddsAgainst_32 rfl (by decide) (by decide) (wp_isub (q := 34) dX0_oddsAgainst_33 rfl (by omega) (by omega) (wp_n1I (q := 37) dX0_oddsAgainst_34 rfl q39 (Nat.le_of_ble_eq_true rfl) rfl rfl rfl (ct_partsOf (d + 1) hp) (wp_lmul (q := 38) dX0_oddsAgainst_37 rfl (by omega) (by omega) (wp_ldl (12) (q := 41) dX0_oddsAgainst_38 rfl l0 (by decide) (by decide) (wp_lmul (q := 42) dX0_oddsAgainst_41 rfl (by omega) (by omega) (wp_lret dX0_oddsAgainst_42 rfl ?_))))))))
      exact ⟨by unfold oaA; rw [if_neg c14, if_pos c26], rfl⟩
  · refine wp_lc0 (q := 18) dX0_oddsAgainst_17 rfl (wp_lret dX0_oddsAgainst_18 rfl ?_)
    exact ⟨by unfold oaA; rw [if_pos c14], rfl⟩
/-- one match weighed -/
def wmQ (h : List mC) (k : Nat) (pl wi od ch : List Int) (m r a : Int) (r9 : Option mV) (h9 : List mC) : Prop := r9 = none ∧ ∃ od' : List Int, od'.length = 32 ∧ h9 = h.set (k + 3) (mJ od') ∧ (∀ x, a ≤ x → x < a + p2A r → odA od' r x = wmV (odA od (r - 1)) pl ch (rd8 wi m) r a x) ∧ (∀ r' x', (r' ≠ r ∨ x' < a ∨ a + p2A r ≤ x') → odA od' r' x' = odA od r' x')
theorem ct_weighMatch (d : Nat) {h : List mC} {k q : Nat} {sz n : Int} {pl wi od ch ro : List Int} (hB : BrAt h k sz pl wi od) (hR : RoAt h q n ch ro) (hp : h[0]? = some (mJ mPT)) (hch : chB ch) {m r a : Int} (h1 : 1 ≤ r) (h3 : r ≤ 3) (ha : 0 ≤ a) (hb : a + p2A r ≤ sz) (hqk : k + 4 ≤ q ∨ q + 3 ≤ k) (hpl : ∀ i : Int, 0 ≤ gI pl i ∧ gI pl i ≤ 8) (hod : ∀ y, 0 ≤ y → y < sz → 0 ≤ odA od (r - 1) y ∧ odA od (r - 1) y ≤ 884736) : Ct (d + 3) mX0_weighMatch [mR k, mI m, mI r, mI a, mR q] h (wmQ h k pl wi od ch m r a) := by
  obtain ⟨b0, b1, b2, b3, b4, b5, b6, b7, b8⟩ := id hB
  obtain ⟨r0, r1, r2, r3, r4, r5⟩ := id hR
  have hpp := p2h h1 h3
  have key : ∀ (j : Nat), j ≤ (p2A r).toNat → ∀ (o1 : List Int) (x : Int), x = a + j → o1.length = 32 → (∀ x, a ≤ x → x < a + j → odA o1 r x = wmV (odA od (r - 1)) pl ch (rd8 wi m) r a x) → (∀ r' x', (r' ≠ r ∨ x' < a ∨ a + j ≤ x') → odA o1 r' x' = odA od r' x') → Wp (d + 3) mX0_weighMatch 26 [mR k, mI m, mI r, mI a, mR q, mI (rd8 wi m), mI (a + p2A (r - 1)), mI (a + p2A r), mI x] [] (h.set (k + 3) (mJ o1)) (0, 0) (wmQ h k pl wi od ch m r a) := by
    refine loop_up (p2A r).toNat _ ?_ ?_
    · intro o1 x hx hl1 hv ho
      refine wp_il8 (q := 28) dX0_weighMatch_26 rfl (wp_il7 (q := 30) dX0_weighMatch_28 rfl (wp_icmp_ge (t := 124) (q := 33) dX0_weighMatch_30 rfl rfl (fun c30 => ?_) (fun c30 => ?_)))
      · refine wp_vret dX0_weighMatch_124 rfl ?_
        exact ⟨rfl, o1, hl1, rfl, fun x x1 x2 => hv x x1 (by omega), fun r2 x2 hh => ho r2 x2 (by omega)⟩
      · exfalso; omega
    · intro j hj ih o1 x hx hl1 hv ho
      have hB := hB.setO (od' := o1) hl1
      have hR : RoAt (h.set (k + 3) (mJ o1)) q n ch ro := hR.fr (fun j _ _ => fr_set (by omega))
      have hp : (h.set (k + 3) (mJ o1))[0]? = some (mJ mPT) := gs_ne hp (by omega)
      obtain ⟨b0, b1, b2, b3, b4, b5, b6, b7, b8⟩ := id hB
      have hrow : odA o1 (r - 1) = odA od (r - 1) := funext fun y => ho _ _ (Or.inl (by omega))
      have hod1 : ∀ y, 0 ≤ y → y < sz → 0 ≤ odA o1 (r - 1) y ∧ odA o1 (r - 1) y ≤ 884736 := by rw [hrow]; exact hod
      have step : ∀ v : Int, v = wmV (odA od (r - 1)) pl ch (rd8 wi m) r a x → ∀ x3, x3 = x + 1 → Wp (d + 3) mX0_weighMatch 26 [mR k, mI m, mI r, mI a, mR q, mI (rd8 wi m), mI (a + p2A (r - 1)), mI (a + p2A r), mI x3] [] ((h.set (k + 3) (mJ o1)).set (k + 3) (mJ (sI o1 (r * 8 + x) v))) (0, 0) (wmQ h k pl wi od ch m r a) := by
        intro v hv2 x3 hx3
        rw [gs_ss]
        refine ih _ x3 (by omega) (by rw [sI_len]; exact hl1) ?_ ?_
        · intro y y1 y2
          rw [odA_set hl1 (by omega) h3 (by omega) (by omega)]
          by_cases e : y = x
          · rw [if_pos ⟨rfl, e⟩, hv2, e]
          · rw [if_neg (fun z => e z.2)]
            exact hv y y1 (by omega)
        · intro r2 x2 hh
          rw [odA_set hl1 (by omega) h3 (by omega) (by omega), if_neg (by omega)]
          exact ho r2 x2 (by omega)
      refine wp_il8 (q := 28) dX0_weighMatch_26 rfl (wp_il7 (q := 30) dX0_weighMatch_28 rfl (wp_icmp_ge (t := 124) (q := 33) dX0_weighMatch_30 rfl rfl (fun c30 => ?_) (fun c30 => ?_)))
      · exfalso; omega
      · refine wp_il5 (q := 35) dX0_weighMatch_33 rfl (wp_bi (q := 37) dX0_weighMatch_35 rfl (by decide) (by decide) (wp_icmp_eq (t := 69) (q := 40) dX0_weighMatch_37 rfl rfl (fun c37 => ?_) (fun c37 => ?_)))
        · refine wp_il8 (q := 71) dX0_weighMatch_69 rfl (wp_il6 (q := 73) dX0_weighMatch_71 rfl (wp_icmp_ge (t := 99) (q := 76) dX0_weighMatch_73 rfl rfl (fun c73 => ?_) (fun c73 => ?_)))
          · refine wp_al0 (q := 100) dX0_weighMatch_99 rfl (wp_il2 (q := 101) dX0_weighMatch_100 rfl (wp_il8 (q := 103) dX0_weighMatch_101 rfl (wp_al0 (q := 104) dX0_weighMatch_103 rfl (wp_il2 (q := 105) dX0_weighMatch_104 rfl (wp_il8 (q := 107) dX0_weighMatch_105 rfl (wp_il3 (q := 108) dX0_weighMatch_107 rfl (wp_il6 (q := 110) dX0_weighMatch_108 rfl (wp_al4 (q := 112) dX0_weighMatch_110 rfl (wp_v5I (q := 115) dX0_weighMatch_112 rfl q40 (Nat.le_of_ble_eq_true rfl) rfl b0 b1 rfl rfl (ct_oddsAgainst d hB hR hp hch h1 h3 (by omega) (by omega) (by omega) (by omega) (by omega) hpl hod1) (wp_v3V (q := 118) dX0_weighMatch_115 rfl q35 (Nat.le_of_ble_eq_true rfl) rfl b0 b1 rfl rfl (ct_setOddsB (d + 2) hB (by omega) h3 (by omega) (by omega)) (wp_ii8 (q := 121) dX0_weighMatch_118 rfl rfl (by omega) (by omega) (wp_goto (q := 26) dX0_weighMatch_121 rfl ?_))))))))))))
            refine step _ ?_ _ rfl
            unfold wmV
            try rw [hrow]
            (repeat' split) <;> first | rfl | omega
          · refine wp_al0 (q := 77) dX0_weighMatch_76 rfl (wp_il2 (q := 78) dX0_weighMatch_77 rfl (wp_il8 (q := 80) dX0_weighMatch_78 rfl (wp_al0 (q := 81) dX0_weighMatch_80 rfl (wp_il2 (q := 82) dX0_weighMatch_81 rfl (wp_il8 (q := 84) dX0_weighMatch_82 rfl (wp_il6 (q := 86) dX0_weighMatch_84 rfl (wp_il7 (q := 88) dX0_weighMatch_86 rfl (wp_al4 (q := 90) dX0_weighMatch_88 rfl (wp_v5I (q := 93) dX0_weighMatch_90 rfl q40 (Nat.le_of_ble_eq_true rfl) rfl b0 b1 rfl rfl (ct_oddsAgainst d hB hR hp hch h1 h3 (by omega) (by omega) (by omega) (by omega) (by omega) hpl hod1) (wp_v3V (q := 96) dX0_weighMatch_93 rfl q35 (Nat.le_of_ble_eq_true rfl) rfl b0 b1 rfl rfl (ct_setOddsB (d + 2) hB (by omega) h3 (by omega) (by omega)) (wp_goto (q := 118) dX0_weighMatch_96 rfl (wp_ii8 (q := 121) dX0_weighMatch_118 rfl rfl (by omega) (by omega) (wp_goto (q := 26) dX0_weighMatch_121 rfl ?_)))))))))))))
            refine step _ ?_ _ rfl
            unfold wmV
            try rw [hrow]
            (repeat' split) <;> first | rfl | omega
        · refine wp_al0 (q := 41) dX0_weighMatch_40 rfl (wp_il2 (q := 42) dX0_weighMatch_41 rfl (wp_il8 (q := 44) dX0_weighMatch_42 rfl (wp_al0 (q := 45) dX0_weighMatch_44 rfl (wp_il8 (q := 47) dX0_weighMatch_45 rfl (wp_v1I (q := 50) dX0_weighMatch_47 rfl q26 (Nat.le_of_ble_eq_true rfl) rfl b0 b1 rfl rfl (ct_playerAt (d + 2) hB) (wp_il5 (q := 52) dX0_weighMatch_50 rfl (wp_icmp_ne (t := 62) (q := 55) dX0_weighMatch_52 rfl rfl (fun c52 => ?_) (fun c52 => ?_))))))))
          · refine wp_lc0 (q := 63) dX0_weighMatch_62 rfl (wp_v3V (q := 66) dX0_weighMatch_63 rfl q35 (Nat.le_of_ble_eq_true rfl) rfl b0 b1 rfl rfl (ct_setOddsB (d + 2) hB (by omega) h3 (by omega) (by omega)) (wp_goto (q := 118) dX0_weighMatch_66 rfl (wp_ii8 (q := 121) dX0_weighMatch_118 rfl rfl (by omega) (by omega) (wp_goto (q := 26) dX0_weighMatch_121 rfl ?_))))
            refine step _ ?_ _ rfl
            unfold wmV
            try rw [hrow]
            (repeat' split) <;> first | rfl | omega
          · refine wp_il2 (q := 56) dX0_weighMatch_55 rfl (wp_n1I (q := 59) dX0_weighMatch_56 rfl q39 (Nat.le_of_ble_eq_true rfl) rfl rfl rfl (ct_partsOf (d + 2) hp) (wp_goto (q := 63) dX0_weighMatch_59 rfl (wp_v3V (q := 66) dX0_weighMatch_63 rfl q35 (Nat.le_of_ble_eq_true rfl) rfl b0 b1 rfl rfl (ct_setOddsB (d + 2) hB (by omega) h3 (by omega) (by omega)) (wp_goto (q := 118) dX0_weighMatch_66 rfl (wp_ii8 (q := 121) dX0_weighMatch_118 rfl rfl (by omega) (by omega) (wp_goto (q := 26) dX0_weighMatch_121 rfl ?_))))))
            refine step _ ?_ _ rfl
            unfold wmV
            try rw [hrow]
            (repeat' split) <;> first | rfl | omega
  show Wp _ mX0_weighMatch 0 [mR k, mI m, mI r, mI a, mR q, mU, mU, mU, mU] [] h (0, 0) _
  refine wp_al0 (q := 1) dX0_weighMatch_0 rfl (wp_il1 (q := 2) dX0_weighMatch_1 rfl (wp_v1I (q := 5) dX0_weighMatch_2 rfl q38 (Nat.le_of_ble_eq_true rfl) rfl b0 b1 rfl rfl (ct_winnerOf (d + 2) hB) (wp_is5 (q := 7) dX0_weighMatch_5 rfl rfl (wp_il3 (q := 8) dX0_weighMatch_7 rfl (wp_ic (q := 9) dX0_weighMatch_8 rfl (by decide) (by decide) (wp_il2 (q := 10) dX0_weighMatch_9 rfl (wp_ic (q := 11) dX0_weighMatch_10 rfl (by decide) (by decide) (wp_isub (q := 12) dX0_weighMatch_11 rfl (by omega) (by omega) (wp_ishl (p2A (r - 1)) (q := 13) dX0_weighMatch_12 rfl (shl1 (by omega) (by omega)) (wp_iadd (q := 14) dX0_weighMatch_13 rfl (by omega) (by omega) (wp_is6 (q := 16) dX0_weighMatch_14 rfl rfl (wp_il3 (q := 17) dX0_weighMatch_16 rfl (wp_ic (q := 18) dX0_weighMatch_17 rfl (by decide) (by decide) ?_)))))))))))))
  refine wp_il2 (q := 19) dX0_weighMatch_18 rfl (wp_ishl (p2A r) (q := 20) dX0_weighMatch_19 rfl (shl1 (by omega) (by omega)) (wp_iadd (q := 21) dX0_weighMatch_20 rfl (by omega) (by omega) (wp_is7 (q := 23) dX0_weighMatch_21 rfl rfl (wp_il3 (q := 24) dX0_weighMatch_23 rfl (wp_is8 (q := 26) dX0_weighMatch_24 rfl rfl ?_)))))
  have z := key 0 (Nat.zero_le _) od a (by omega) b7 (fun x x1 x2 => by omega) (fun _ _ _ => rfl)
  rw [gs_id b4] at z
  exact z
