/-! a cup is weighed whole (rows laid by wip/whole) -/
theorem p2d {r x y : Int} (i : Int) (h1 : 1 ≤ r) (h3 : r ≤ 3) (hy : y = i * p2A r) (hx : y ≤ x) (hx2 : x < y + p2A r) : x / p2A r = i := by
  rcases (show r = 1 ∨ r = 2 ∨ r = 3 by omega) with rfl | rfl | rfl
  · have e : p2A 1 = 2 := by decide
    rw [e] at hy hx2 ⊢
    omega
  · have e : p2A 2 = 4 := by decide
    rw [e] at hy hx2 ⊢
    omega
  · have e : p2A 3 = 8 := by decide
    rw [e] at hy hx2 ⊢
    omega
/-- how many matches a round has -/
theorem rnd_n {sz r : Int} (hs : sz = 2 ∨ sz = 4 ∨ sz = 8) (h1 : 1 ≤ r) (h3 : r ≤ lrA sz) : ∃ n : Nat, sz = n * p2A r ∧ (r + 1 ≤ lrA sz → fmA sz (r + 1) = fmA sz r + n) ∧ 0 ≤ fmA sz r ∧ fmA sz r + n ≤ sz - 1 ∧ (r = lrA sz → n = 1) := by
  rcases hs with rfl | rfl | rfl
  · have : lrA 2 = 1 := by decide
    rcases (show r = 1 by omega) with rfl
    exact ⟨1, by decide, by decide, by decide, by decide, by decide⟩
  · have : lrA 4 = 2 := by decide
    rcases (show r = 1 ∨ r = 2 by omega) with rfl | rfl
    · exact ⟨2, by decide, by decide, by decide, by decide, by decide⟩
    · exact ⟨1, by decide, by decide, by decide, by decide, by decide⟩
  · have : lrA 8 = 3 := by decide
    rcases (show r = 1 ∨ r = 2 ∨ r = 3 by omega) with rfl | rfl | rfl
    · exact ⟨4, by decide, by decide, by decide, by decide, by decide⟩
    · exact ⟨2, by decide, by decide, by decide, by decide, by decide⟩
    · exact ⟨1, by decide, by decide, by decide, by decide, by decide⟩
theorem bdA_le {r : Nat} (h : r ≤ 2) : bdA r ≤ 884736 := by
  rcases (show r = 0 ∨ r = 1 ∨ r = 2 by omega) with rfl | rfl | rfl <;> decide
/-- what weigh leaves -/
def wgQ (h : List mC) (k : Nat) (sz : Int) (pl wi ch : List Int) (r9 : Option mV) (h9 : List mC) : Prop := r9 = none ∧ ∃ od' : List Int, od'.length = 32 ∧ h9 = h.set (k + 3) (mJ od') ∧ ∀ r : Nat, (r : Int) ≤ lrA sz → ∀ x : Int, 0 ≤ x → x < sz → odA od' r x = odR pl wi ch sz r x
theorem ct_weigh (d : Nat) {h : List mC} {k q : Nat} {sz n : Int} {pl wi od ch ro : List Int} (hB : BrAt h k sz pl wi od) (hR : RoAt h q n ch ro) (hp : h[0]? = some (mJ mPT)) (hch : chB ch) (hqk : k + 4 ≤ q ∨ q + 3 ≤ k) (hpl : ∀ i : Int, 0 ≤ gI pl i ∧ gI pl i ≤ 8) : Ct (d + 4) mX0_weigh [mR k, mR q] h (wgQ h k sz pl wi ch) := by
  obtain ⟨b0, b1, b2, b3, b4, b5, b6, b7, b8⟩ := id hB
  obtain ⟨r0, r1, r2, r3, r4, r5⟩ := id hR
  obtain ⟨l1, l3⟩ := lrA_in b8
  -- the rounds
  have keyB : ∀ (j : Nat), j ≤ (lrA sz).toNat → ∀ (o1 : List Int) (c r : Int) (u v : mV), r = j + 1 → 0 ≤ c → c ≤ 7 → (r ≤ lrA sz → c = fmA sz r) → o1.length = 32 → (∀ r : Nat, r ≤ j → ∀ x : Int, 0 ≤ x → x < sz → odA o1 r x = odR pl wi ch sz r x) → Wp (d + 4) mX0_weigh 41 [mR k, mR q, mI c, mI r, u, v] [] (h.set (k + 3) (mJ o1)) (0, 0) (wgQ h k sz pl wi ch) := by
    refine loop_up (lrA sz).toNat _ ?_ ?_
    · intro o1 c r u v hr hc0 hc7 hc hl1 hrow
      have hB := hB.setO (od' := o1) hl1
      have hR : RoAt (h.set (k + 3) (mJ o1)) q n ch ro := hR.fr (fun j _ _ => fr_set (by omega))
      have hp : (h.set (k + 3) (mJ o1))[0]? = some (mJ mPT) := gs_ne hp (by omega)
      obtain ⟨b0, b1, b2, b3, b4, b5, b6, b7, b8⟩ := id hB
      obtain ⟨r0, r1, r2, r3, r4, r5⟩ := id hR
      refine wp_il3 (q := 42) dX0_weigh_41 rfl (wp_al0 (q := 43) dX0_weigh_42 rfl (wp_v0I (q := 46) dX0_weigh_43 rfl q36 (Nat.le_of_ble_eq_true rfl) rfl b0 b1 rfl rfl (ct_lastRound (d + 3) hB) (wp_icmp_gt (t := 94) (q := 49) dX0_weigh_46 rfl rfl (fun c46 => ?_) (fun c46 => ?_))))
      · refine wp_vret dX0_weigh_94 rfl ?_
        exact ⟨rfl, o1, hl1, rfl, fun r2 hr2 x x0 x1 => hrow r2 (by omega) x x0 x1⟩
      · exfalso; omega
    · intro j hj ih o1 c r u v hr hc0 hc7 hc hl1 hrow
      obtain ⟨nn, n1, n2, n3, n4, n5⟩ := rnd_n (r := r) b8 (by omega) (by omega)
      have hpp := p2h (r := r) (by omega) (by omega)
      have hw1 : ∀ i : Nat, i < nn → (i : Int) * p2A r + p2A r ≤ sz := by
        intro i hi
        have := Int.mul_le_mul_of_nonneg_right (show ((i : Int) + 1) ≤ nn by omega) (show 0 ≤ p2A r by omega)
        rw [Int.add_mul] at this
        omega
      have keyC : ∀ (i : Nat), i ≤ nn → ∀ (o1 : List Int) (c y : Int), y = i * p2A r → c = fmA sz r + i → o1.length = 32 → (∀ r : Nat, r ≤ j → ∀ x : Int, 0 ≤ x → x < sz → odA o1 r x = odR pl wi ch sz r x) → (∀ x : Int, 0 ≤ x → x < y → odA o1 (j + 1 : Nat) x = odR pl wi ch sz (j + 1) x) → Wp (d + 4) mX0_weigh 57 [mR k, mR q, mI c, mI r, mI (p2A r), mI y] [] (h.set (k + 3) (mJ o1)) (0, 0) (wgQ h k sz pl wi ch) := by
        refine loop_up nn _ ?_ ?_
        · intro o1 c y hy hc2 hl1 hrow hnew
          have hB := hB.setO (od' := o1) hl1
          have hR : RoAt (h.set (k + 3) (mJ o1)) q n ch ro := hR.fr (fun j _ _ => fr_set (by omega))
          have hp : (h.set (k + 3) (mJ o1))[0]? = some (mJ mPT) := gs_ne hp (by omega)
          obtain ⟨b0, b1, b2, b3, b4, b5, b6, b7, b8⟩ := id hB
          obtain ⟨r0, r1, r2, r3, r4, r5⟩ := id hR
          refine wp_il5 (q := 59) dX0_weigh_57 rfl (wp_al0 (q := 60) dX0_weigh_59 rfl (wp_getf (q := 63) dX0_weigh_60 rfl f5 b0 b1 rfl (fun z => nomatch z) (wp_icmp_ge (t := 88) (q := 66) dX0_weigh_63 rfl rfl (fun c63 => ?_) (fun c63 => ?_))))
          · refine wp_ii3 (q := 91) dX0_weigh_88 rfl rfl (by omega) (by omega) (wp_goto (q := 41) dX0_weigh_91 rfl ?_)
            refine ih o1 c (r + 1) _ _ (by omega) (by omega) (by omega) (fun z => by rw [n2 z]; exact hc2) hl1 ?_
            intro r2 hr2 x x0 x1
            by_cases e : r2 ≤ j
            · exact hrow r2 e x x0 x1
            · have : r2 = j + 1 := by omega
              subst this
              exact hnew x x0 (by omega)
          · exfalso; omega
        · intro i hi ihC o1 c y hy hc2 hl1 hrow hnew
          have hB := hB.setO (od' := o1) hl1
          have hR : RoAt (h.set (k + 3) (mJ o1)) q n ch ro := hR.fr (fun j _ _ => fr_set (by omega))
          have hp : (h.set (k + 3) (mJ o1))[0]? = some (mJ mPT) := gs_ne hp (by omega)
          obtain ⟨b0, b1, b2, b3, b4, b5, b6, b7, b8⟩ := id hB
          obtain ⟨r0, r1, r2, r3, r4, r5⟩ := id hR
          have hwi := hw1 i hi
          have hy0 : 0 ≤ y := by rw [hy]; exact Int.mul_nonneg (by omega) (by omega)
          have hod : ∀ y, 0 ≤ y → y < sz → 0 ≤ odA o1 (r - 1) y ∧ odA o1 (r - 1) y ≤ 884736 := by
            intro y y0 y1
            rw [show r - 1 = ((j : Nat) : Int) by omega, hrow j (Nat.le_refl _) y y0 y1]
            have := odR_in (pl := pl) (wi := wi) (sz := sz) hch j (by omega) y
            have := bdA_le (r := j) (by omega)
            omega
          refine wp_il5 (q := 59) dX0_weigh_57 rfl (wp_al0 (q := 60) dX0_weigh_59 rfl (wp_getf (q := 63) dX0_weigh_60 rfl f5 b0 b1 rfl (fun z => nomatch z) (wp_icmp_ge (t := 88) (q := 66) dX0_weigh_63 rfl rfl (fun c63 => ?_) (fun c63 => ?_))))
          · exfalso; omega
          · refine wp_al0 (q := 67) dX0_weigh_66 rfl (wp_il2 (q := 68) dX0_weigh_67 rfl (wp_il3 (q := 69) dX0_weigh_68 rfl (wp_il5 (q := 71) dX0_weigh_69 rfl (wp_al1 (q := 72) dX0_weigh_71 rfl (wp_v4 (q := 75) dX0_weigh_72 rfl q37 (Nat.le_of_ble_eq_true rfl) rfl b0 b1 rfl rfl (ct_weighMatch d hB hR hp hch (by omega) (by omega) hy0 (by omega) hqk hpl hod) (fun r9 h9 e9 => ?_))))))
            obtain ⟨rfl, o2, hl2, rfl, hv2, ho2⟩ := e9
            rw [gs_ss]
            have hB := hB.setO (od' := o2) hl2
            rw [gs_ss] at hB
            obtain ⟨b0, b1, b2, b3, b4, b5, b6, b7, b8⟩ := id hB
            show Wp _ _ _ _ [] _ _ _
            refine wp_ii2 (q := 78) dX0_weigh_75 rfl rfl (by omega) (by omega) (wp_il5 (q := 80) dX0_weigh_78 rfl (wp_il4 (q := 82) dX0_weigh_80 rfl (wp_iadd (q := 83) dX0_weigh_82 rfl (by omega) (by omega) (wp_is5 (q := 85) dX0_weigh_83 rfl rfl (wp_goto (q := 57) dX0_weigh_85 rfl ?_)))))
            refine ihC o2 (c + 1) (y + p2A r) (by rw [hy, Int.natCast_add, Int.add_mul]; omega) (by omega) hl2 ?_ ?_
            · intro r2 hr2 x x0 x1
              rw [ho2 r2 x (Or.inl (by omega))]
              exact hrow r2 hr2 x x0 x1
            · intro x x0 x1
              by_cases e : x < y
              · rw [ho2 _ x (Or.inr (Or.inl e))]
                exact hnew x x0 e
              · have hdv := p2d i (by omega) (by omega) hy (by omega) x1
                rw [show ((j + 1 : Nat) : Int) = r by omega, hv2 x (by omega) x1]
                unfold odR
                rw [show ((j : Nat) : Int) + 1 = r by omega, hdv, ← hy, ← hc2, show r - 1 = ((j : Nat) : Int) by omega]
                exact wmV_congr (by omega) (by omega) (by omega) x1 (fun z z1 z2 => hrow j (Nat.le_refl _) z (by omega) (by omega))
      have hB := hB.setO (od' := o1) hl1
      have hR : RoAt (h.set (k + 3) (mJ o1)) q n ch ro := hR.fr (fun j _ _ => fr_set (by omega))
      have hp : (h.set (k + 3) (mJ o1))[0]? = some (mJ mPT) := gs_ne hp (by omega)
      obtain ⟨b0, b1, b2, b3, b4, b5, b6, b7, b8⟩ := id hB
      obtain ⟨r0, r1, r2, r3, r4, r5⟩ := id hR
      refine wp_il3 (q := 42) dX0_weigh_41 rfl (wp_al0 (q := 43) dX0_weigh_42 rfl (wp_v0I (q := 46) dX0_weigh_43 rfl q36 (Nat.le_of_ble_eq_true rfl) rfl b0 b1 rfl rfl (ct_lastRound (d + 3) hB) (wp_icmp_gt (t := 94) (q := 49) dX0_weigh_46 rfl rfl (fun c46 => ?_) (fun c46 => ?_))))
      · exfalso; omega
      · refine wp_ic (q := 50) dX0_weigh_49 rfl (by decide) (by decide) (wp_il3 (q := 51) dX0_weigh_50 rfl (wp_ishl (p2A r) (q := 52) dX0_weigh_51 rfl (shl1 (by omega) (by omega)) (wp_is4 (q := 54) dX0_weigh_52 rfl rfl (wp_ic (q := 55) dX0_weigh_54 rfl (by decide) (by decide) (wp_is5 (q := 57) dX0_weigh_55 rfl rfl ?_)))))
        exact keyC 0 (Nat.zero_le _) o1 c 0 (by simp) (by rw [hc (by omega)]; simp) hl1 hrow (fun x x0 x1 => by omega)
  -- the first row
  have keyA : ∀ (j : Nat), j ≤ sz.toNat → ∀ (o1 : List Int) (x : Int) (u v w : mV), x = j → o1.length = 32 → (∀ x : Int, 0 ≤ x → x < j → odA o1 0 x = odR pl wi ch sz 0 x) → Wp (d + 4) mX0_weigh 2 [mR k, mR q, mI x, u, v, w] [] (h.set (k + 3) (mJ o1)) (0, 0) (wgQ h k sz pl wi ch) := by
    refine loop_up sz.toNat _ ?_ ?_
    · intro o1 x u v w hx hl1 hrow
      have hB := hB.setO (od' := o1) hl1
      have hR : RoAt (h.set (k + 3) (mJ o1)) q n ch ro := hR.fr (fun j _ _ => fr_set (by omega))
      have hp : (h.set (k + 3) (mJ o1))[0]? = some (mJ mPT) := gs_ne hp (by omega)
      obtain ⟨b0, b1, b2, b3, b4, b5, b6, b7, b8⟩ := id hB
      obtain ⟨r0, r1, r2, r3, r4, r5⟩ := id hR
      refine wp_il2 (q := 3) dX0_weigh_2 rfl (wp_al0 (q := 4) dX0_weigh_3 rfl (wp_getf (q := 7) dX0_weigh_4 rfl f5 b0 b1 rfl (fun z => nomatch z) (wp_icmp_ge (t := 37) (q := 10) dX0_weigh_7 rfl rfl (fun c7 => ?_) (fun c7 => ?_))))
      · refine wp_ic (q := 38) dX0_weigh_37 rfl (by decide) (by decide) (wp_is2 (q := 39) dX0_weigh_38 rfl rfl (wp_ic (q := 40) dX0_weigh_39 rfl (by decide) (by decide) (wp_is3 (q := 41) dX0_weigh_40 rfl rfl ?_)))
        refine keyB 0 (Nat.zero_le _) o1 0 1 _ _ rfl (by omega) (by omega) (fun _ => rfl) hl1 ?_
        intro r2 hr2 x x0 x1
        have : r2 = 0 := by omega
        subst this
        exact hrow x x0 (by omega)
      · exfalso; omega
    · intro j hj ih o1 x u v w hx hl1 hrow
      have hB := hB.setO (od' := o1) hl1
      have hR : RoAt (h.set (k + 3) (mJ o1)) q n ch ro := hR.fr (fun j _ _ => fr_set (by omega))
      have hp : (h.set (k + 3) (mJ o1))[0]? = some (mJ mPT) := gs_ne hp (by omega)
      obtain ⟨b0, b1, b2, b3, b4, b5, b6, b7, b8⟩ := id hB
      obtain ⟨r0, r1, r2, r3, r4, r5⟩ := id hR
      have step : ∀ vv : Int, vv = odR pl wi ch sz 0 x → Wp (d + 4) mX0_weigh 2 [mR k, mR q, mI (x + 1), u, v, w] [] ((h.set (k + 3) (mJ o1)).set (k + 3) (mJ (sI o1 (0 * 8 + x) vv))) (0, 0) (wgQ h k sz pl wi ch) := by
        intro vv hvv
        rw [gs_ss]
        refine ih _ (x + 1) u v w (by omega) (by rw [sI_len]; exact hl1) ?_
        intro y y0 y1
        rw [odA_set hl1 (by omega) (by omega) (by omega) (by omega)]
        by_cases e : y = x
        · rw [if_pos ⟨rfl, e⟩, hvv, e]
        · rw [if_neg (fun z => e z.2)]
          exact hrow y y0 (by omega)
      refine wp_il2 (q := 3) dX0_weigh_2 rfl (wp_al0 (q := 4) dX0_weigh_3 rfl (wp_getf (q := 7) dX0_weigh_4 rfl f5 b0 b1 rfl (fun z => nomatch z) (wp_icmp_ge (t := 37) (q := 10) dX0_weigh_7 rfl rfl (fun c7 => ?_) (fun c7 => ?_))))
      · exfalso; omega
      · refine wp_al0 (q := 11) dX0_weigh_10 rfl (wp_ic (q := 12) dX0_weigh_11 rfl (by decide) (by decide) (wp_il2 (q := 13) dX0_weigh_12 rfl (wp_al0 (q := 14) dX0_weigh_13 rfl (wp_il2 (q := 15) dX0_weigh_14 rfl (wp_v1I (q := 18) dX0_weigh_15 rfl q26 (Nat.le_of_ble_eq_true rfl) rfl b0 b1 rfl rfl (ct_playerAt (d + 3) hB) (wp_bi (q := 20) dX0_weigh_18 rfl (by decide) (by decide) (wp_icmp_ne (t := 27) (q := 23) dX0_weigh_20 rfl rfl (fun c20 => ?_) (fun c20 => ?_))))))))
        · refine wp_lc1 (q := 28) dX0_weigh_27 rfl (wp_v3V (q := 31) dX0_weigh_28 rfl q35 (Nat.le_of_ble_eq_true rfl) rfl b0 b1 rfl rfl (ct_setOddsB (d + 3) hB (by omega) (by omega) (by omega) (by omega)) (wp_ii2 (q := 34) dX0_weigh_31 rfl rfl (by omega) (by omega) (wp_goto (q := 2) dX0_weigh_34 rfl ?_)))
          refine step _ ?_
          unfold odR
          split <;> omega
        · refine wp_lc0 (q := 24) dX0_weigh_23 rfl (wp_goto (q := 28) dX0_weigh_24 rfl (wp_v3V (q := 31) dX0_weigh_28 rfl q35 (Nat.le_of_ble_eq_true rfl) rfl b0 b1 rfl rfl (ct_setOddsB (d + 3) hB (by omega) (by omega) (by omega) (by omega)) (wp_ii2 (q := 34) dX0_weigh_31 rfl rfl (by omega) (by omega) (wp_goto (q := 2) dX0_weigh_34 rfl ?_))))
          refine step _ ?_
          unfold odR
          split <;> omega
  show Wp _ mX0_weigh 0 [mR k, mR q, mU, mU, mU, mU] [] h (0, 0) _
  refine wp_ic (q := 1) dX0_weigh_0 rfl (by decide) (by decide) (wp_is2 (q := 2) dX0_weigh_1 rfl rfl ?_)
  have z := keyA 0 (Nat.zero_le _) od 0 mU mU mU rfl b7 (fun x x0 x1 => by omega)
  rw [gs_id b4] at z
  exact z
