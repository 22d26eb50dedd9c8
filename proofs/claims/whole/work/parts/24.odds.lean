/-! a cup: who can come (rows laid by wip/whole) -/
abbrev ccA (od : List Int) (sz m x : Int) : Prop := fpA sz m (rdO sz m) ≤ x ∧ x < fpA sz m (rdO sz m) + p2A (rdO sz m) ∧ 0 < odA od (rdO sz m - 1) x
def cmA (od : List Int) (sz m : Int) : Int := sumN (fun i => bI (ccA od sz m i)) sz.toNat
def pwA (od : List Int) (sz : Int) : Int := sumN (fun i => bI (0 < odA od (lrA sz) i)) sz.toNat
abbrev stA (pl wi od : List Int) (sz m : Int) : Prop := m < 0 ∨ (kdA pl wi sz m = 1 ∧ cmA od sz m = 1) ∨ (kdA pl wi sz m ≠ 1 ∧ kdA pl wi sz m ≠ 2)
abbrev mbA (pl wi od : List Int) (sz m : Int) : Prop := kdA pl wi sz m = 2 ∧ stA pl wi od sz (2 * m - sz) ∧ stA pl wi od sz (2 * m + 1 - sz)
theorem sumB_in {p : Nat → Prop} [DecidablePred p] (n : Nat) : 0 ≤ sumN (fun i => bI (p i)) n ∧ sumN (fun i => bI (p i)) n ≤ n := by
  have := sumN_le (f := fun i => bI (p i)) (c := 1) n (fun i _ => by rcases bI_01 (p := p i) with e | e <;> rw [e] <;> omega)
  omega
theorem lrA_in {sz : Int} (hs : sz = 2 ∨ sz = 4 ∨ sz = 8) : 1 ≤ lrA sz ∧ lrA sz ≤ 3 := by
  rcases hs with rfl | rfl | rfl <;> decide
theorem ct_canCome (d : Nat) {h : List mC} {k : Nat} {sz : Int} {pl wi od : List Int} (hB : BrAt h k sz pl wi od) {m : Int} (h0 : 0 ≤ m) (h1 : m < sz - 1) {x : Int} (hx0 : -10 ≤ x) (hx1 : x ≤ 10) : Rt (d + 2) mX0_canCome [mR k, mI m, mI x] h (some (mI (bI (ccA od sz m x)))) (h) := by
  obtain ⟨b0, b1, b2, b3, b4, b5, b6, b7, b8⟩ := id hB
  obtain ⟨g1, g2, g3, g4, g5, g6⟩ := fp_in b8 h0 h1
  obtain ⟨r1, r3⟩ := rdO_in sz m
  show Wp _ mX0_canCome 0 [mR k, mI m, mI x, mU, mU] [] h (0, 0) _
  refine wp_al0 (q := 1) dX0_canCome_0 rfl (wp_il1 (q := 2) dX0_canCome_1 rfl (wp_v1I (q := 5) dX0_canCome_2 rfl q46 (Nat.le_of_ble_eq_true rfl) rfl b0 b1 rfl rfl (ct_roundOf d hB h0) (wp_is3 (q := 6) dX0_canCome_5 rfl rfl (wp_al0 (q := 7) dX0_canCome_6 rfl (wp_il1 (q := 8) dX0_canCome_7 rfl (wp_il3 (q := 9) dX0_canCome_8 rfl (wp_v2I (q := 12) dX0_canCome_9 rfl q48 (Nat.le_of_ble_eq_true rfl) rfl b0 b1 rfl rfl (ct_firstPlace d hB r1 r3 g1 (by omega)) (wp_is4 (q := 14) dX0_canCome_12 rfl rfl (wp_il2 (q := 15) dX0_canCome_14 rfl (wp_il4 (q := 17) dX0_canCome_15 rfl (wp_icmp_lt (t := 47) (q := 20) dX0_canCome_17 rfl rfl (fun c17 => ?_) (fun c17 => ?_))))))))))))
  · refine wp_ic (q := 48) dX0_canCome_47 rfl (by decide) (by decide) (wp_bret dX0_canCome_48 rfl (by first | exact Or.inl rfl | exact Or.inr rfl | exact bI_01) ?_)
    refine ⟨rI ?_, rfl⟩
    unfold bI
    split <;> omega
  · refine wp_il2 (q := 21) dX0_canCome_20 rfl (wp_il4 (q := 23) dX0_canCome_21 rfl (wp_ic (q := 24) dX0_canCome_23 rfl (by decide) (by decide) (wp_il3 (q := 25) dX0_canCome_24 rfl (wp_ishl (p2A (rdO sz m)) (q := 26) dX0_canCome_25 rfl (shl1 (by omega) (by omega)) (wp_iadd (q := 27) dX0_canCome_26 rfl (by omega) (by omega) (wp_icmp_ge (t := 47) (q := 30) dX0_canCome_27 rfl rfl (fun c27 => ?_) (fun c27 => ?_)))))))
    · refine wp_ic (q := 48) dX0_canCome_47 rfl (by decide) (by decide) (wp_bret dX0_canCome_48 rfl (by first | exact Or.inl rfl | exact Or.inr rfl | exact bI_01) ?_)
      refine ⟨rI ?_, rfl⟩
      unfold bI
      split <;> omega
    · refine wp_al0 (q := 31) dX0_canCome_30 rfl (wp_il3 (q := 32) dX0_canCome_31 rfl (wp_ic (q := 33) dX0_canCome_32 rfl (by decide) (by decide) (wp_isub (q := 34) dX0_canCome_33 rfl (by omega) (by omega) (wp_il2 (q := 35) dX0_canCome_34 rfl (wp_v2I (q := 38) dX0_canCome_35 rfl q41 (Nat.le_of_ble_eq_true rfl) rfl b0 b1 rfl rfl ((ct_oddsOf d hB (by omega) (by omega) hx0 hx1).deep 1) (wp_lc0 (q := 39) dX0_canCome_38 rfl (wp_lcmp_le (q1 := 40) (t := 47) (q := 43) dX0_canCome_39 rfl dX0_canCome_40 rfl rfl (fun c40 => ?_) (fun c40 => ?_))))))))
      · refine wp_ic (q := 48) dX0_canCome_47 rfl (by decide) (by decide) (wp_bret dX0_canCome_48 rfl (by first | exact Or.inl rfl | exact Or.inr rfl | exact bI_01) ?_)
        refine ⟨rI ?_, rfl⟩
        unfold bI
        split <;> omega
      · refine wp_ic (q := 44) dX0_canCome_43 rfl (by decide) (by decide) (wp_goto (q := 48) dX0_canCome_44 rfl (wp_bret dX0_canCome_48 rfl (by first | exact Or.inl rfl | exact Or.inr rfl | exact bI_01) ?_))
        refine ⟨rI ?_, rfl⟩
        unfold bI
        split <;> omega
theorem ct_comers (d : Nat) {h : List mC} {k : Nat} {sz : Int} {pl wi od : List Int} (hB : BrAt h k sz pl wi od) {m : Int} (h0 : 0 ≤ m) (h1 : m < sz - 1) : Rt (d + 3) mX0_comers [mR k, mI m] h (some (mI (cmA od sz m))) h := by
  obtain ⟨b0, b1, b2, b3, b4, b5, b6, b7, b8⟩ := id hB
  have key : ∀ (j : Nat), j ≤ sz.toNat → ∀ (c x : Int), x = j → c = sumN (fun i => bI (ccA od sz m i)) j → Wp (d + 3) mX0_comers 4 [mR k, mI m, mI c, mI x] [] h (0, 0) (fun r' h' => r' = some (mI (cmA od sz m)) ∧ h' = h) := by
    refine loop_up sz.toNat _ ?_ ?_
    · intro c x hx hc
      refine wp_il3 (q := 5) dX0_comers_4 rfl (wp_al0 (q := 6) dX0_comers_5 rfl (wp_getf (q := 9) dX0_comers_6 rfl f5 b0 b1 rfl (fun z => nomatch z) (wp_icmp_ge (t := 30) (q := 12) dX0_comers_9 rfl rfl (fun c9 => ?_) (fun c9 => ?_))))
      · refine wp_il2 (q := 31) dX0_comers_30 rfl (wp_iret dX0_comers_31 rfl ?_)
        exact ⟨rI hc, rfl⟩
      · exfalso; omega
    · intro j hj ih c x hx hc
      have bo := sumB_in (p := fun i => ccA od sz m i) j
      have e1 : sumN (fun i => bI (ccA od sz m i)) (j + 1) = sumN (fun i => bI (ccA od sz m i)) j + bI (ccA od sz m j) := rfl
      rw [← hx] at e1
      refine wp_il3 (q := 5) dX0_comers_4 rfl (wp_al0 (q := 6) dX0_comers_5 rfl (wp_getf (q := 9) dX0_comers_6 rfl f5 b0 b1 rfl (fun z => nomatch z) (wp_icmp_ge (t := 30) (q := 12) dX0_comers_9 rfl rfl (fun c9 => ?_) (fun c9 => ?_))))
      · exfalso; omega
      · refine wp_al0 (q := 13) dX0_comers_12 rfl (wp_il1 (q := 14) dX0_comers_13 rfl (wp_il3 (q := 15) dX0_comers_14 rfl (wp_v2I (q := 18) dX0_comers_15 rfl q51 (Nat.le_of_ble_eq_true rfl) rfl b0 b1 rfl rfl (ct_canCome d hB h0 h1 (by omega) (by omega)) (wp_ifb_eq (t := 24) (q := 21) dX0_comers_18 rfl rfl (fun c18 => ?_) (fun c18 => ?_)))))
        · refine wp_ii3 (q := 27) dX0_comers_24 rfl rfl (by omega) (by omega) (wp_goto (q := 4) dX0_comers_27 rfl ?_)
          exact ih _ _ (by omega) (by rw [e1]; first | (rw [bI_t c18]; omega) | (rw [bI_f c18]; omega))
        · refine wp_ii2 (q := 24) dX0_comers_21 rfl rfl (by omega) (by omega) (wp_ii3 (q := 27) dX0_comers_24 rfl rfl (by omega) (by omega) (wp_goto (q := 4) dX0_comers_27 rfl ?_))
          exact ih _ _ (by omega) (by rw [e1]; first | (rw [bI_t c18]; omega) | (rw [bI_f c18]; omega))
  show Wp _ mX0_comers 0 [mR k, mI m, mU, mU] [] h (0, 0) _
  refine wp_ic (q := 1) dX0_comers_0 rfl (by decide) (by decide) (wp_is2 (q := 2) dX0_comers_1 rfl rfl (wp_ic (q := 3) dX0_comers_2 rfl (by decide) (by decide) (wp_is3 (q := 4) dX0_comers_3 rfl rfl ?_)))
  exact key 0 (Nat.zero_le _) 0 0 rfl rfl
theorem ct_possibleWinners (d : Nat) {h : List mC} {k : Nat} {sz : Int} {pl wi od : List Int} (hB : BrAt h k sz pl wi od) : Rt (d + 1) mX0_possibleWinners [mR k] h (some (mI (pwA od sz))) h := by
  obtain ⟨b0, b1, b2, b3, b4, b5, b6, b7, b8⟩ := id hB
  obtain ⟨l1, l3⟩ := lrA_in b8
  have key : ∀ (j : Nat), j ≤ sz.toNat → ∀ (c x : Int), x = j → c = sumN (fun i => bI (0 < odA od (lrA sz) i)) j → Wp (d + 1) mX0_possibleWinners 4 [mR k, mI c, mI x] [] h (0, 0) (fun r' h' => r' = some (mI (pwA od sz)) ∧ h' = h) := by
    refine loop_up sz.toNat _ ?_ ?_
    · intro c x hx hc
      refine wp_il2 (q := 5) dX0_possibleWinners_4 rfl (wp_al0 (q := 6) dX0_possibleWinners_5 rfl (wp_getf (q := 9) dX0_possibleWinners_6 rfl f5 b0 b1 rfl (fun z => nomatch z) (wp_icmp_ge (t := 35) (q := 12) dX0_possibleWinners_9 rfl rfl (fun c9 => ?_) (fun c9 => ?_))))
      · refine wp_il1 (q := 36) dX0_possibleWinners_35 rfl (wp_iret dX0_possibleWinners_36 rfl ?_)
        exact ⟨rI hc, rfl⟩
      · exfalso; omega
    · intro j hj ih c x hx hc
      have bo := sumB_in (p := fun i : Nat => 0 < odA od (lrA sz) i) j
      have e1 : sumN (fun i => bI (0 < odA od (lrA sz) i)) (j + 1) = sumN (fun i => bI (0 < odA od (lrA sz) i)) j + bI (0 < odA od (lrA sz) j) := rfl
      rw [← hx] at e1
      refine wp_il2 (q := 5) dX0_possibleWinners_4 rfl (wp_al0 (q := 6) dX0_possibleWinners_5 rfl (wp_getf (q := 9) dX0_possibleWinners_6 rfl f5 b0 b1 rfl (fun z => nomatch z) (wp_icmp_ge (t := 35) (q := 12) dX0_possibleWinners_9 rfl rfl (fun c9 => ?_) (fun c9 => ?_))))
      · exfalso; omega
      · refine wp_al0 (q := 13) dX0_possibleWinners_12 rfl (wp_al0 (q := 14) dX0_possibleWinners_13 rfl (wp_v0I (q := 17) dX0_possibleWinners_14 rfl q36 (Nat.le_of_ble_eq_true rfl) rfl b0 b1 rfl rfl (ct_lastRound d hB) (wp_il2 (q := 18) dX0_possibleWinners_17 rfl (wp_v2I (q := 21) dX0_possibleWinners_18 rfl q41 (Nat.le_of_ble_eq_true rfl) rfl b0 b1 rfl rfl (ct_oddsOf d hB (by omega) (by omega) (by omega) (by omega)) (wp_lc0 (q := 22) dX0_possibleWinners_21 rfl (wp_lcmp_le (q1 := 23) (t := 29) (q := 26) dX0_possibleWinners_22 rfl dX0_possibleWinners_23 rfl rfl (fun c23 => ?_) (fun c23 => ?_)))))))
        · refine wp_ii2 (q := 32) dX0_possibleWinners_29 rfl rfl (by omega) (by omega) (wp_goto (q := 4) dX0_possibleWinners_32 rfl ?_)
          exact ih _ _ (by omega) (by rw [e1]; first | (rw [bI_t (by omega)]; omega) | (rw [bI_f (by omega)]; omega))
        · refine wp_ii1 (q := 29) dX0_possibleWinners_26 rfl rfl (by omega) (by omega) (wp_ii2 (q := 32) dX0_possibleWinners_29 rfl rfl (by omega) (by omega) (wp_goto (q := 4) dX0_possibleWinners_32 rfl ?_))
          exact ih _ _ (by omega) (by rw [e1]; first | (rw [bI_t (by omega)]; omega) | (rw [bI_f (by omega)]; omega))
  show Wp _ mX0_possibleWinners 0 [mR k, mU, mU] [] h (0, 0) _
  refine wp_ic (q := 1) dX0_possibleWinners_0 rfl (by decide) (by decide) (wp_is1 (q := 2) dX0_possibleWinners_1 rfl rfl (wp_ic (q := 3) dX0_possibleWinners_2 rfl (by decide) (by decide) (wp_is2 (q := 4) dX0_possibleWinners_3 rfl rfl ?_)))
  exact key 0 (Nat.zero_le _) 0 0 rfl rfl
theorem ct_isSettled (d : Nat) {h : List mC} {k : Nat} {sz : Int} {pl wi od : List Int} (hB : BrAt h k sz pl wi od) {m : Int} (h0 : -100 ≤ m) (h1 : m < sz - 1) : Rt (d + 4) mX0_isSettled [mR k, mI m] h (some (mI (bI (stA pl wi od sz m)))) (h) := by
  obtain ⟨b0, b1, b2, b3, b4, b5, b6, b7, b8⟩ := id hB
  show Wp _ mX0_isSettled 0 [mR k, mI m, mU] [] h (0, 0) _
  refine wp_il1 (q := 1) dX0_isSettled_0 rfl (wp_if_ge (t := 6) (q := 4) dX0_isSettled_1 rfl rfl (fun c1 => ?_) (fun c1 => ?_))
  · refine wp_al0 (q := 7) dX0_isSettled_6 rfl (wp_il1 (q := 8) dX0_isSettled_7 rfl (wp_v1I (q := 11) dX0_isSettled_8 rfl q45 (Nat.le_of_ble_eq_true rfl) rfl b0 b1 rfl rfl ((ct_kindOf d hB (by omega) h1).deep 1) (wp_is2 (q := 12) dX0_isSettled_11 rfl rfl (wp_il2 (q := 13) dX0_isSettled_12 rfl (wp_ic (q := 14) dX0_isSettled_13 rfl (by decide) (by decide) (wp_icmp_ne (t := 34) (q := 17) dX0_isSettled_14 rfl rfl (fun c14 => ?_) (fun c14 => ?_)))))))
    · refine wp_il2 (q := 35) dX0_isSettled_34 rfl (wp_ic (q := 36) dX0_isSettled_35 rfl (by decide) (by decide) (wp_icmp_eq (t := 43) (q := 39) dX0_isSettled_36 rfl rfl (fun c36 => ?_) (fun c36 => ?_)))
      · refine wp_ic (q := 44) dX0_isSettled_43 rfl (by decide) (by decide) (wp_bret dX0_isSettled_44 rfl (by first | exact Or.inl rfl | exact Or.inr rfl | exact bI_01) ?_)
        refine ⟨rI ?_, rfl⟩
        unfold bI
        split <;> omega
      · refine wp_ic (q := 40) dX0_isSettled_39 rfl (by decide) (by decide) (wp_goto (q := 44) dX0_isSettled_40 rfl (wp_bret dX0_isSettled_44 rfl (by first | exact Or.inl rfl | exact Or.inr rfl | exact bI_01) ?_))
        refine ⟨rI ?_, rfl⟩
        unfold bI
        split <;> omega
    · refine wp_al0 (q := 18) dX0_isSettled_17 rfl (wp_il1 (q := 19) dX0_isSettled_18 rfl (wp_v1I (q := 22) dX0_isSettled_19 rfl q50 (Nat.le_of_ble_eq_true rfl) rfl b0 b1 rfl rfl (ct_comers d hB (by omega) h1) (wp_ic (q := 23) dX0_isSettled_22 rfl (by decide) (by decide) (wp_icmp_ne (t := 30) (q := 26) dX0_isSettled_23 rfl rfl (fun c23 => ?_) (fun c23 => ?_)))))
      · refine wp_ic (q := 31) dX0_isSettled_30 rfl (by decide) (by decide) (wp_goto (q := 44) dX0_isSettled_31 rfl (wp_bret dX0_isSettled_44 rfl (by first | exact Or.inl rfl | exact Or.inr rfl | exact bI_01) ?_))
        refine ⟨rI ?_, rfl⟩
        unfold bI
        split <;> omega
      · refine wp_ic (q := 27) dX0_isSettled_26 rfl (by decide) (by decide) (wp_goto (q := 44) dX0_isSettled_27 rfl (wp_bret dX0_isSettled_44 rfl (by first | exact Or.inl rfl | exact Or.inr rfl | exact bI_01) ?_))
        refine ⟨rI ?_, rfl⟩
        unfold bI
        split <;> omega
  · refine wp_ic (q := 5) dX0_isSettled_4 rfl (by decide) (by decide) (wp_bret dX0_isSettled_5 rfl (by first | exact Or.inl rfl | exact Or.inr rfl | exact bI_01) ?_)
    refine ⟨rI ?_, rfl⟩
    unfold bI
    split <;> omega
theorem ct_mayBeDecided (d : Nat) {h : List mC} {k : Nat} {sz : Int} {pl wi od : List Int} (hB : BrAt h k sz pl wi od) {m : Int} (h0 : 0 ≤ m) (h1 : m < sz - 1)  : Rt (d + 5) mX0_mayBeDecided [mR k, mI m] h (some (mI (bI (mbA pl wi od sz m)))) (h) := by
  obtain ⟨b0, b1, b2, b3, b4, b5, b6, b7, b8⟩ := id hB
  show Wp _ mX0_mayBeDecided 0 [mR k, mI m] [] h (0, 0) _
  refine wp_al0 (q := 1) dX0_mayBeDecided_0 rfl (wp_il1 (q := 2) dX0_mayBeDecided_1 rfl (wp_v1I (q := 5) dX0_mayBeDecided_2 rfl q45 (Nat.le_of_ble_eq_true rfl) rfl b0 b1 rfl rfl ((ct_kindOf d hB h0 h1).deep 2) (wp_ic (q := 6) dX0_mayBeDecided_5 rfl (by decide) (by decide) (wp_icmp_ne (t := 45) (q := 9) dX0_mayBeDecided_6 rfl rfl (fun c6 => ?_) (fun c6 => ?_)))))
  · refine wp_ic (q := 46) dX0_mayBeDecided_45 rfl (by decide) (by decide) (wp_bret dX0_mayBeDecided_46 rfl (by first | exact Or.inl rfl | exact Or.inr rfl | exact bI_01) ?_)
    refine ⟨rI ?_, rfl⟩
    unfold bI
    split <;> omega
  · refine wp_al0 (q := 10) dX0_mayBeDecided_9 rfl (wp_ic (q := 11) dX0_mayBeDecided_10 rfl (by decide) (by decide) (wp_il1 (q := 12) dX0_mayBeDecided_11 rfl (wp_imul (q := 13) dX0_mayBeDecided_12 rfl (by omega) (by omega) (wp_al0 (q := 14) dX0_mayBeDecided_13 rfl (wp_getf (q := 17) dX0_mayBeDecided_14 rfl f5 b0 b1 rfl (fun z => nomatch z) (wp_isub (q := 18) dX0_mayBeDecided_17 rfl (by omega) (by omega) (wp_v1I (q := 21) dX0_mayBeDecided_18 rfl q49 (Nat.le_of_ble_eq_true rfl) rfl b0 b1 rfl rfl (ct_isSettled d hB (by omega) (by omega)) (wp_ifb_eq (t := 45) (q := 24) dX0_mayBeDecided_21 rfl rfl (fun c21 => ?_) (fun c21 => ?_)))))))))
    · refine wp_ic (q := 46) dX0_mayBeDecided_45 rfl (by decide) (by decide) (wp_bret dX0_mayBeDecided_46 rfl (by first | exact Or.inl rfl | exact Or.inr rfl | exact bI_01) ?_)
      refine ⟨rI ?_, rfl⟩
      unfold bI
      split <;> omega
    · refine wp_al0 (q := 25) dX0_mayBeDecided_24 rfl (wp_ic (q := 26) dX0_mayBeDecided_25 rfl (by decide) (by decide) (wp_il1 (q := 27) dX0_mayBeDecided_26 rfl (wp_imul (q := 28) dX0_mayBeDecided_27 rfl (by omega) (by omega) (wp_ic (q := 29) dX0_mayBeDecided_28 rfl (by decide) (by decide) (wp_iadd (q := 30) dX0_mayBeDecided_29 rfl (by omega) (by omega) (wp_al0 (q := 31) dX0_mayBeDecided_30 rfl (wp_getf (q := 34) dX0_mayBeDecided_31 rfl f5 b0 b1 rfl (fun z => nomatch z) (wp_isub (q := 35) dX0_mayBeDecided_34 rfl (by omega) (by omega) (wp_v1I (q := 38) dX0_mayBeDecided_35 rfl q49 (Nat.le_of_ble_eq_true rfl) rfl b0 b1 rfl rfl (ct_isSettled d hB (by omega) (by omega)) (wp_ifb_eq (t := 45) (q := 41) dX0_mayBeDecided_38 rfl rfl (fun c38 => ?_) (fun c38 => ?_)))))))))))
      · refine wp_ic (q := 46) dX0_mayBeDecided_45 rfl (by decide) (by decide) (wp_bret dX0_mayBeDecided_46 rfl (by first | exact Or.inl rfl | exact Or.inr rfl | exact bI_01) ?_)
        refine ⟨rI ?_, rfl⟩
        unfold bI
        split <;> omega
      · refine wp_ic (q := 42) dX0_mayBeDecided_41 rfl (by decide) (by decide) (wp_goto (q := 46) dX0_mayBeDecided_42 rfl (wp_bret dX0_mayBeDecided_46 rfl (by first | exact Or.inl rfl | exact Or.inr rfl | exact bI_01) ?_))
        refine ⟨rI ?_, rfl⟩
        unfold bI
        split <;> omega
