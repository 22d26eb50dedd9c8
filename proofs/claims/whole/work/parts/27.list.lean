/-! the list of draws: reads (rows laid by wip/whole) -/
/-- a list of draws at k: how many, the row under way, the rows, the odds -/
def LiAt (h : List mC) (k : Nat) (ln : Int) (rw rs lo : List Int) : Prop := 2 ≤ k ∧ h[k]? = some (mO 1 [mI ln, mR (k + 1), mR (k + 2), mR (k + 3)]) ∧ h[k + 1]? = some (mA rw) ∧ h[k + 2]? = some (mA rs) ∧ h[k + 3]? = some (mJ lo) ∧ rw.length = 8 ∧ rs.length = 2520 ∧ lo.length = 2520 ∧ 0 ≤ ln ∧ ln ≤ 315
theorem LiAt.fr {h h' : List mC} {k : Nat} {ln : Int} {rw rs lo : List Int} (hB : LiAt h k ln rw rs lo) (hf : ∀ j, k ≤ j → j < k + 4 → h'[j]? = h[j]?) : LiAt h' k ln rw rs lo := by
  obtain ⟨b0, b1, b2, b3, b4, b5⟩ := hB
  exact ⟨b0, by rw [hf k (by omega) (by omega)]; exact b1, by rw [hf (k + 1) (by omega) (by omega)]; exact b2, by rw [hf (k + 2) (by omega) (by omega)]; exact b3, by rw [hf (k + 3) (by omega) (by omega)]; exact b4, b5⟩
theorem LiAt.setN {h : List mC} {k : Nat} {ln ln' : Int} {rw rs lo : List Int} (hB : LiAt h k ln rw rs lo) (h0 : 0 ≤ ln') (h1 : ln' ≤ 315) : LiAt (h.set k (mO 1 [mI ln', mR (k + 1), mR (k + 2), mR (k + 3)])) k ln' rw rs lo := by
  obtain ⟨b0, b1, b2, b3, b4, b5, b6, b7, b8⟩ := hB
  exact ⟨b0, gs_eq b1, gs_ne b2 (by omega), gs_ne b3 (by omega), gs_ne b4 (by omega), b5, b6, b7, h0, h1⟩
theorem LiAt.setW {h : List mC} {k : Nat} {ln : Int} {rw rs lo rw' : List Int} (hB : LiAt h k ln rw rs lo) (hl : rw'.length = 8) : LiAt (h.set (k + 1) (mA rw')) k ln rw' rs lo := by
  obtain ⟨b0, b1, b2, b3, b4, b5, b6⟩ := hB
  exact ⟨b0, gs_ne b1 (by omega), gs_eq b2, gs_ne b3 (by omega), gs_ne b4 (by omega), hl, b6⟩
theorem LiAt.setR {h : List mC} {k : Nat} {ln : Int} {rw rs lo rs' : List Int} (hB : LiAt h k ln rw rs lo) (hl : rs'.length = 2520) : LiAt (h.set (k + 2) (mA rs')) k ln rw rs' lo := by
  obtain ⟨b0, b1, b2, b3, b4, b5, b6, b7⟩ := hB
  exact ⟨b0, gs_ne b1 (by omega), gs_ne b2 (by omega), gs_eq b3, gs_ne b4 (by omega), b5, hl, b7⟩
theorem LiAt.setO {h : List mC} {k : Nat} {ln : Int} {rw rs lo lo' : List Int} (hB : LiAt h k ln rw rs lo) (hl : lo'.length = 2520) : LiAt (h.set (k + 3) (mJ lo')) k ln rw rs lo' := by
  obtain ⟨b0, b1, b2, b3, b4, b5, b6, b7, b8⟩ := hB
  exact ⟨b0, gs_ne b1 (by omega), gs_ne b2 (by omega), gs_ne b3 (by omega), gs_eq b4, b5, b6, hl, b8⟩
def lpA (ln : Int) (rs : List Int) (i x : Int) : Int := if 0 ≤ i ∧ i < ln ∧ 0 ≤ x ∧ x < 8 then gI rs (i * 8 + x) else 8
def loA (ln : Int) (lo : List Int) (i x : Int) : Int := if 0 ≤ i ∧ i < ln ∧ 0 ≤ x ∧ x < 8 then gI lo (i * 8 + x) else 0
theorem ct_Lhas (d : Nat) {h : List mC} {k : Nat} {ln : Int} {rw rs lo : List Int} (hL : LiAt h k ln rw rs lo) {x : Int} : Rt (d + 0) mX1_has [mR k, mI x] h (some (mI (bI (0 ≤ x ∧ x < ln)))) (h) := by
  obtain ⟨a0, a1, a2, a3, a4, a5, a6, a7, a8, a9⟩ := id hL
  show Wp _ mX1_has 0 [mR k, mI x] [] h (0, 0) _
  refine wp_il1 (q := 1) dX1_has_0 rfl (wp_if_lt (t := 16) (q := 4) dX1_has_1 rfl rfl (fun c1 => ?_) (fun c1 => ?_))
  · refine wp_ic (q := 17) dX1_has_16 rfl (by decide) (by decide) (wp_bret dX1_has_17 rfl (by first | exact Or.inl rfl | exact Or.inr rfl | exact bI_01) ?_)
    exact ⟨by first | rw [bI_t (by omega)] | rw [bI_f (by omega)], rfl⟩
  · refine wp_il1 (q := 5) dX1_has_4 rfl (wp_al0 (q := 6) dX1_has_5 rfl (wp_getf (q := 9) dX1_has_6 rfl f11 a0 a1 rfl (fun z => nomatch z) (wp_icmp_ge (t := 16) (q := 12) dX1_has_9 rfl rfl (fun c9 => ?_) (fun c9 => ?_))))
    · refine wp_ic (q := 17) dX1_has_16 rfl (by decide) (by decide) (wp_bret dX1_has_17 rfl (by first | exact Or.inl rfl | exact Or.inr rfl | exact bI_01) ?_)
      exact ⟨by first | rw [bI_t (by omega)] | rw [bI_f (by omega)], rfl⟩
    · refine wp_ic (q := 13) dX1_has_12 rfl (by decide) (by decide) (wp_goto (q := 17) dX1_has_13 rfl (wp_bret dX1_has_17 rfl (by first | exact Or.inl rfl | exact Or.inr rfl | exact bI_01) ?_))
      exact ⟨by first | rw [bI_t (by omega)] | rw [bI_f (by omega)], rfl⟩
theorem ct_LplayerAt (d : Nat) {h : List mC} {k : Nat} {ln : Int} {rw rs lo : List Int} (hL : LiAt h k ln rw rs lo) {i x : Int} (hi0 : -100000 ≤ i) (hi : i ≤ 100000) (hx0 : -100000 ≤ x) (hx : x ≤ 100000)  : Rt (d + 1) mX1_playerAt [mR k, mI i, mI x] h (some (mI (lpA ln rs i x))) (h) := by
  obtain ⟨a0, a1, a2, a3, a4, a5, a6, a7, a8, a9⟩ := id hL
  show Wp _ mX1_playerAt 0 [mR k, mI i, mI x, mU] [] h (0, 0) _
  refine wp_il1 (q := 1) dX1_playerAt_0 rfl (wp_bi (q := 3) dX1_playerAt_1 rfl (by decide) (by decide) (wp_imul (q := 4) dX1_playerAt_3 rfl (by omega) (by omega) (wp_il2 (q := 5) dX1_playerAt_4 rfl (wp_iadd (q := 6) dX1_playerAt_5 rfl (by omega) (by omega) (wp_is3 (q := 7) dX1_playerAt_6 rfl rfl (wp_al0 (q := 8) dX1_playerAt_7 rfl (wp_il1 (q := 9) dX1_playerAt_8 rfl (wp_v1I (q := 12) dX1_playerAt_9 rfl q88 (Nat.le_of_ble_eq_true rfl) rfl a0 a1 rfl rfl (ct_Lhas d hL) (wp_ifb_eq (t := 43) (q := 15) dX1_playerAt_12 rfl rfl (fun c12 => ?_) (fun c12 => ?_))))))))))
  · refine wp_bi (q := 45) dX1_playerAt_43 rfl (by decide) (by decide) (wp_iret dX1_playerAt_45 rfl ?_)
    exact ⟨by unfold lpA gI; first | rw [if_pos (by omega)] | rw [if_neg (by omega)], rfl⟩
  · refine wp_il2 (q := 16) dX1_playerAt_15 rfl (wp_if_lt (t := 43) (q := 19) dX1_playerAt_16 rfl rfl (fun c16 => ?_) (fun c16 => ?_))
    · refine wp_bi (q := 45) dX1_playerAt_43 rfl (by decide) (by decide) (wp_iret dX1_playerAt_45 rfl ?_)
      exact ⟨by unfold lpA gI; first | rw [if_pos (by omega)] | rw [if_neg (by omega)], rfl⟩
    · refine wp_il2 (q := 20) dX1_playerAt_19 rfl (wp_bi (q := 22) dX1_playerAt_20 rfl (by decide) (by decide) (wp_icmp_ge (t := 43) (q := 25) dX1_playerAt_22 rfl rfl (fun c22 => ?_) (fun c22 => ?_)))
      · refine wp_bi (q := 45) dX1_playerAt_43 rfl (by decide) (by decide) (wp_iret dX1_playerAt_45 rfl ?_)
        exact ⟨by unfold lpA gI; first | rw [if_pos (by omega)] | rw [if_neg (by omega)], rfl⟩
      · refine wp_il3 (q := 26) dX1_playerAt_25 rfl (wp_al0 (q := 27) dX1_playerAt_26 rfl (wp_getf (q := 30) dX1_playerAt_27 rfl f14 a0 a1 rfl (fun z => nomatch z) (wp_aleni (q := 31) dX1_playerAt_30 rfl a3 (by omega) (wp_icmp_ge (t := 43) (q := 34) dX1_playerAt_31 rfl rfl (fun c31 => ?_) (fun c31 => ?_)))))
        · exfalso; omega
        · refine wp_al0 (q := 35) dX1_playerAt_34 rfl (wp_getf (q := 38) dX1_playerAt_35 rfl f14 a0 a1 rfl (fun z => nomatch z) (wp_il3 (q := 39) dX1_playerAt_38 rfl (wp_iaload (q := 40) dX1_playerAt_39 rfl a3 (by omega) (by omega) (wp_goto (q := 45) dX1_playerAt_40 rfl (wp_iret dX1_playerAt_45 rfl ?_)))))
          exact ⟨by unfold lpA gI; first | rw [if_pos (by omega)] | rw [if_neg (by omega)], rfl⟩
theorem ct_LoddsOf (d : Nat) {h : List mC} {k : Nat} {ln : Int} {rw rs lo : List Int} (hL : LiAt h k ln rw rs lo) {i x : Int} (hi0 : -100000 ≤ i) (hi : i ≤ 100000) (hx0 : -100000 ≤ x) (hx : x ≤ 100000)  : Rt (d + 1) mX1_oddsOf [mR k, mI i, mI x] h (some (mL (loA ln lo i x))) (h) := by
  obtain ⟨a0, a1, a2, a3, a4, a5, a6, a7, a8, a9⟩ := id hL
  show Wp _ mX1_oddsOf 0 [mR k, mI i, mI x, mU] [] h (0, 0) _
  refine wp_il1 (q := 1) dX1_oddsOf_0 rfl (wp_bi (q := 3) dX1_oddsOf_1 rfl (by decide) (by decide) (wp_imul (q := 4) dX1_oddsOf_3 rfl (by omega) (by omega) (wp_il2 (q := 5) dX1_oddsOf_4 rfl (wp_iadd (q := 6) dX1_oddsOf_5 rfl (by omega) (by omega) (wp_is3 (q := 7) dX1_oddsOf_6 rfl rfl (wp_al0 (q := 8) dX1_oddsOf_7 rfl (wp_il1 (q := 9) dX1_oddsOf_8 rfl (wp_v1I (q := 12) dX1_oddsOf_9 rfl q88 (Nat.le_of_ble_eq_true rfl) rfl a0 a1 rfl rfl (ct_Lhas d hL) (wp_ifb_eq (t := 43) (q := 15) dX1_oddsOf_12 rfl rfl (fun c12 => ?_) (fun c12 => ?_))))))))))
  · refine wp_lc0 (q := 44) dX1_oddsOf_43 rfl (wp_lret dX1_oddsOf_44 rfl ?_)
    exact ⟨by unfold loA gI; first | rw [if_pos (by omega)] | rw [if_neg (by omega)], rfl⟩
  · refine wp_il2 (q := 16) dX1_oddsOf_15 rfl (wp_if_lt (t := 43) (q := 19) dX1_oddsOf_16 rfl rfl (fun c16 => ?_) (fun c16 => ?_))
    · refine wp_lc0 (q := 44) dX1_oddsOf_43 rfl (wp_lret dX1_oddsOf_44 rfl ?_)
      exact ⟨by unfold loA gI; first | rw [if_pos (by omega)] | rw [if_neg (by omega)], rfl⟩
    · refine wp_il2 (q := 20) dX1_oddsOf_19 rfl (wp_bi (q := 22) dX1_oddsOf_20 rfl (by decide) (by decide) (wp_icmp_ge (t := 43) (q := 25) dX1_oddsOf_22 rfl rfl (fun c22 => ?_) (fun c22 => ?_)))
      · refine wp_lc0 (q := 44) dX1_oddsOf_43 rfl (wp_lret dX1_oddsOf_44 rfl ?_)
        exact ⟨by unfold loA gI; first | rw [if_pos (by omega)] | rw [if_neg (by omega)], rfl⟩
      · refine wp_il3 (q := 26) dX1_oddsOf_25 rfl (wp_al0 (q := 27) dX1_oddsOf_26 rfl (wp_getf (q := 30) dX1_oddsOf_27 rfl f15 a0 a1 rfl (fun z => nomatch z) (wp_alenl (q := 31) dX1_oddsOf_30 rfl a4 (by omega) (wp_icmp_ge (t := 43) (q := 34) dX1_oddsOf_31 rfl rfl (fun c31 => ?_) (fun c31 => ?_)))))
        · exfalso; omega
        · refine wp_al0 (q := 35) dX1_oddsOf_34 rfl (wp_getf (q := 38) dX1_oddsOf_35 rfl f15 a0 a1 rfl (fun z => nomatch z) (wp_il3 (q := 39) dX1_oddsOf_38 rfl (wp_laload (q := 40) dX1_oddsOf_39 rfl a4 (by omega) (by omega) (wp_goto (q := 44) dX1_oddsOf_40 rfl (wp_lret dX1_oddsOf_44 rfl ?_)))))
          exact ⟨by unfold loA gI; first | rw [if_pos (by omega)] | rw [if_neg (by omega)], rfl⟩
/-- odds of a draw put -/
def lsA (ln : Int) (lo : List Int) (i x v : Int) : List Int := if 0 ≤ i ∧ i < ln ∧ 0 ≤ x ∧ x < 8 then sI lo (i * 8 + x) v else lo
theorem ct_LsetOdds (d : Nat) {h : List mC} {k : Nat} {ln : Int} {rw rs lo : List Int} (hL : LiAt h k ln rw rs lo) {i x : Int} (hi0 : -100000 ≤ i) (hi : i ≤ 100000) (hx0 : -100000 ≤ x) (hx : x ≤ 100000) {v : Int} : Rt (d + 1) mX1_setOdds [mR k, mI i, mI x, mL v] h (none) (h.set (k + 3) (mJ (lsA ln lo i x v))) := by
  obtain ⟨a0, a1, a2, a3, a4, a5, a6, a7, a8, a9⟩ := id hL
  show Wp _ mX1_setOdds 0 [mR k, mI i, mI x, mL v, mU, mU] [] h (0, 0) _
  refine wp_il1 (q := 1) dX1_setOdds_0 rfl (wp_bi (q := 3) dX1_setOdds_1 rfl (by decide) (by decide) (wp_imul (q := 4) dX1_setOdds_3 rfl (by omega) (by omega) (wp_il2 (q := 5) dX1_setOdds_4 rfl (wp_iadd (q := 6) dX1_setOdds_5 rfl (by omega) (by omega) (wp_is5 (q := 8) dX1_setOdds_6 rfl rfl (wp_al0 (q := 9) dX1_setOdds_8 rfl (wp_il1 (q := 10) dX1_setOdds_9 rfl (wp_v1I (q := 13) dX1_setOdds_10 rfl q88 (Nat.le_of_ble_eq_true rfl) rfl a0 a1 rfl rfl (ct_Lhas d hL) (wp_ifb_eq (t := 44) (q := 16) dX1_setOdds_13 rfl rfl (fun c13 => ?_) (fun c13 => ?_))))))))))
  · refine wp_vret dX1_setOdds_44 rfl ?_
    refine ⟨rfl, ?_⟩
    unfold lsA
    first
      | rw [if_neg (by omega), gs_id a4]
      | rw [if_pos (by omega)]; rfl
  · refine wp_il2 (q := 17) dX1_setOdds_16 rfl (wp_if_lt (t := 44) (q := 20) dX1_setOdds_17 rfl rfl (fun c17 => ?_) (fun c17 => ?_))
    · refine wp_vret dX1_setOdds_44 rfl ?_
      refine ⟨rfl, ?_⟩
      unfold lsA
      first
        | rw [if_neg (by omega), gs_id a4]
        | rw [if_pos (by omega)]; rfl
    · refine wp_il2 (q := 21) dX1_setOdds_20 rfl (wp_bi (q := 23) dX1_setOdds_21 rfl (by decide) (by decide) (wp_icmp_ge (t := 44) (q := 26) dX1_setOdds_23 rfl rfl (fun c23 => ?_) (fun c23 => ?_)))
      · refine wp_vret dX1_setOdds_44 rfl ?_
        refine ⟨rfl, ?_⟩
        unfold lsA
        first
          | rw [if_neg (by omega), gs_id a4]
          | rw [if_pos (by omega)]; rfl
      · refine wp_il5 (q := 28) dX1_setOdds_26 rfl (wp_al0 (q := 29) dX1_setOdds_28 rfl (wp_getf (q := 32) dX1_setOdds_29 rfl f15 a0 a1 rfl (fun z => nomatch z) (wp_alenl (q := 33) dX1_setOdds_32 rfl a4 (by omega) (wp_icmp_ge (t := 44) (q := 36) dX1_setOdds_33 rfl rfl (fun c33 => ?_) (fun c33 => ?_)))))
        · refine wp_vret dX1_setOdds_44 rfl ?_
          refine ⟨rfl, ?_⟩
          unfold lsA
          first
            | rw [if_neg (by omega), gs_id a4]
            | rw [if_pos (by omega)]; rfl
        · refine wp_al0 (q := 37) dX1_setOdds_36 rfl (wp_getf (q := 40) dX1_setOdds_37 rfl f15 a0 a1 rfl (fun z => nomatch z) (wp_il5 (q := 42) dX1_setOdds_40 rfl (wp_ll3 (q := 43) dX1_setOdds_42 rfl (wp_lastore (q := 44) dX1_setOdds_43 rfl (by omega) a4 (by omega) (by omega) (wp_vret dX1_setOdds_44 rfl ?_)))))
          refine ⟨rfl, ?_⟩
          unfold lsA
          first
            | rw [if_neg (by omega), gs_id a4]
            | rw [if_pos (by omega)]; rfl
theorem ct_LplaceOf (d : Nat) {h : List mC} {k : Nat} {ln : Int} {rw rs lo : List Int} (hL : LiAt h k ln rw rs lo) {i v : Int} (hi0 : -100000 ≤ i) (hi : i ≤ 100000) : Rt (d + 2) mX1_placeOf [mR k, mI i, mI v] h (some (mI (fndF (lpA ln rs i) v 8 8))) h := by
  obtain ⟨a0, a1, a2, a3, a4, a5, a6, a7, a8, a9⟩ := id hL
  have key : ∀ (j : Nat), j ≤ 8 → ∀ (x : Int), x = j → fndF (lpA ln rs i) v 8 (8 - j) = fndF (lpA ln rs i) v 8 8 → Wp (d + 2) mX1_placeOf 2 [mR k, mI i, mI v, mI x] [] h (0, 0) (fun r' h' => r' = some (mI (fndF (lpA ln rs i) v 8 8)) ∧ h' = h) := by
    generalize fndF (lpA ln rs i) v 8 8 = T
    refine loop_up 8 _ ?_ ?_
    · intro x hx hc
      refine wp_il3 (q := 3) dX1_placeOf_2 rfl (wp_bi (q := 5) dX1_placeOf_3 rfl (by decide) (by decide) (wp_icmp_ge (t := 26) (q := 8) dX1_placeOf_5 rfl rfl (fun c5 => ?_) (fun c5 => ?_)))
      · refine wp_ic (q := 27) dX1_placeOf_26 rfl (by decide) (by decide) (wp_iret dX1_placeOf_27 rfl ?_)
        exact ⟨rI (by rw [← hc]; rfl), rfl⟩
      · exfalso; omega
    · intro j hj ih x hx hc
      have e0 : 8 - j = (8 - (j + 1)) + 1 := by omega
      rw [e0] at hc
      unfold fndF at hc
      have e1 : ((8 - (8 - (j + 1) + 1) : Nat) : Int) = x := by omega
      rw [e1] at hc
      refine wp_il3 (q := 3) dX1_placeOf_2 rfl (wp_bi (q := 5) dX1_placeOf_3 rfl (by decide) (by decide) (wp_icmp_ge (t := 26) (q := 8) dX1_placeOf_5 rfl rfl (fun c5 => ?_) (fun c5 => ?_)))
      · exfalso; omega
      · refine wp_al0 (q := 9) dX1_placeOf_8 rfl (wp_il1 (q := 10) dX1_placeOf_9 rfl (wp_il3 (q := 11) dX1_placeOf_10 rfl (wp_v2I (q := 14) dX1_placeOf_11 rfl q91 (Nat.le_of_ble_eq_true rfl) rfl a0 a1 rfl rfl (ct_LplayerAt d hL hi0 hi (by omega) (by omega)) (wp_il2 (q := 15) dX1_placeOf_14 rfl (wp_icmp_ne (t := 20) (q := 18) dX1_placeOf_15 rfl rfl (fun c15 => ?_) (fun c15 => ?_))))))
        · refine wp_ii3 (q := 23) dX1_placeOf_20 rfl rfl (by omega) (by omega) (wp_goto (q := 2) dX1_placeOf_23 rfl ?_)
          exact ih _ (by omega) (by rw [if_neg c15] at hc; exact hc)
        · refine wp_il3 (q := 19) dX1_placeOf_18 rfl (wp_iret dX1_placeOf_19 rfl ?_)
          exact ⟨rI (by rw [if_pos c15] at hc; exact hc), rfl⟩
  show Wp _ mX1_placeOf 0 [mR k, mI i, mI v, mU] [] h (0, 0) _
  refine wp_ic (q := 1) dX1_placeOf_0 rfl (by decide) (by decide) (wp_is3 (q := 2) dX1_placeOf_1 rfl rfl ?_)
  exact key 0 (Nat.zero_le _) 0 rfl rfl
theorem ct_isRow (d : Nat) {h : List mC} {k : Nat} {ln : Int} {rw rs lo : List Int} (hL : LiAt h k ln rw rs lo) {i : Int} (hi0 : -100000 ≤ i) (hi : i ≤ 100000) : Rt (d + 2) mX1_isRow [mR k, mI i] h (some (mI (bI (∀ x : Nat, x < 8 → lpA ln rs i x = gI rw x)))) h := by
  obtain ⟨a0, a1, a2, a3, a4, a5, a6, a7, a8, a9⟩ := id hL
  have key : ∀ (j : Nat), j ≤ 8 → ∀ (x : Int), x = j → (∀ x : Nat, x < j → lpA ln rs i x = gI rw x) → Wp (d + 2) mX1_isRow 2 [mR k, mI i, mI x] [] h (0, 0) (fun r' h' => r' = some (mI (bI (∀ x : Nat, x < 8 → lpA ln rs i x = gI rw x))) ∧ h' = h) := by
    refine loop_up 8 _ ?_ ?_
    · intro x hx hc
      refine wp_il2 (q := 3) dX1_isRow_2 rfl (wp_bi (q := 5) dX1_isRow_3 rfl (by decide) (by decide) (wp_icmp_ge (t := 31) (q := 8) dX1_isRow_5 rfl rfl (fun c5 => ?_) (fun c5 => ?_)))
      · refine wp_ic (q := 32) dX1_isRow_31 rfl (by decide) (by decide) (wp_bret dX1_isRow_32 rfl (by first | exact Or.inl rfl | exact Or.inr rfl | exact bI_01) ?_)
        exact ⟨rI (bI_t hc).symm, rfl⟩
      · exfalso; omega
    · intro j hj ih x hx hc
      refine wp_il2 (q := 3) dX1_isRow_2 rfl (wp_bi (q := 5) dX1_isRow_3 rfl (by decide) (by decide) (wp_icmp_ge (t := 31) (q := 8) dX1_isRow_5 rfl rfl (fun c5 => ?_) (fun c5 => ?_)))
      · exfalso; omega
      · refine wp_al0 (q := 9) dX1_isRow_8 rfl (wp_il1 (q := 10) dX1_isRow_9 rfl (wp_il2 (q := 11) dX1_isRow_10 rfl (wp_v2I (q := 14) dX1_isRow_11 rfl q91 (Nat.le_of_ble_eq_true rfl) rfl a0 a1 rfl rfl (ct_LplayerAt d hL hi0 hi (by omega) (by omega)) (wp_al0 (q := 15) dX1_isRow_14 rfl (wp_getf (q := 18) dX1_isRow_15 rfl f13 a0 a1 rfl (fun z => nomatch z) (wp_il2 (q := 19) dX1_isRow_18 rfl (wp_iaload (q := 20) dX1_isRow_19 rfl a2 (by omega) (by omega) (wp_icmp_eq (t := 25) (q := 23) dX1_isRow_20 rfl rfl (fun c20 => ?_) (fun c20 => ?_)))))))))
        · refine wp_ii2 (q := 28) dX1_isRow_25 rfl rfl (by omega) (by omega) (wp_goto (q := 2) dX1_isRow_28 rfl ?_)
          refine ih _ (by omega) (fun y hy => ?_)
          by_cases e : y = j
          · rw [e, ← hx]; exact c20
          · exact hc y (by omega)
        · refine wp_ic (q := 24) dX1_isRow_23 rfl (by decide) (by decide) (wp_bret dX1_isRow_24 rfl (by first | exact Or.inl rfl | exact Or.inr rfl | exact bI_01) ?_)
          refine ⟨rI (bI_f (fun z => ?_)).symm, rfl⟩
          have z1 := z j hj
          rw [← hx] at z1
          exact c20 z1
  show Wp _ mX1_isRow 0 [mR k, mI i, mU] [] h (0, 0) _
  refine wp_ic (q := 1) dX1_isRow_0 rfl (by decide) (by decide) (wp_is2 (q := 2) dX1_isRow_1 rfl rfl ?_)
  exact key 0 (Nat.zero_le _) 0 rfl (fun x hx => by omega)
def lfA (x : Int) : Int := if x = 3 then 2 else if x = 5 then 4 else if x = 6 then 4 else if x = 7 then 6 else 0
theorem lfA_and {x : Int} (h0 : 1 ≤ x) (h1 : x < 8) : mAnd x (-x) = x - lfA x := by
  rcases (show x = 1 ∨ x = 2 ∨ x = 3 ∨ x = 4 ∨ x = 5 ∨ x = 6 ∨ x = 7 by omega) with rfl | rfl | rfl | rfl | rfl | rfl | rfl <;> decide +kernel
theorem lfA_in {x : Int} (h0 : 1 ≤ x) (h1 : x < 8) : 0 ≤ lfA x ∧ lfA x < x := by
  rcases (show x = 1 ∨ x = 2 ∨ x = 3 ∨ x = 4 ∨ x = 5 ∨ x = 6 ∨ x = 7 by omega) with rfl | rfl | rfl | rfl | rfl | rfl | rfl <;> decide
abbrev koA (f : Int → Int) (x v : Int) : Prop := (x = 0 ∧ v = 0) ∨ (x ≠ 0 ∧ f (lfA x) < v)
theorem ct_keepsOrder (d : Nat) {h : List mC} {k : Nat} {ln : Int} {rw rs lo : List Int} (hL : LiAt h k ln rw rs lo) {x v : Int} (h0 : 0 ≤ x) (h1 : x < 8) : Rt (d + 0) mX1_keepsOrder [mR k, mI x, mI v] h (some (mI (bI (koA (gI rw) x v)))) (h) := by
  obtain ⟨a0, a1, a2, a3, a4, a5, a6, a7, a8, a9⟩ := id hL
  show Wp _ mX1_keepsOrder 0 [mR k, mI x, mI v, mU] [] h (0, 0) _
  refine wp_il1 (q := 1) dX1_keepsOrder_0 rfl (wp_if_ne (t := 14) (q := 4) dX1_keepsOrder_1 rfl rfl (fun c1 => ?_) (fun c1 => ?_))
  · have hlf := lfA_in (x := x) (by omega) h1
    refine wp_il1 (q := 15) dX1_keepsOrder_14 rfl (wp_il1 (q := 16) dX1_keepsOrder_15 rfl (wp_il1 (q := 17) dX1_keepsOrder_16 rfl (wp_ineg (q := 18) dX1_keepsOrder_17 rfl (by omega) (by omega) (wp_iand (x - lfA x) (q := 19) dX1_keepsOrder_18 rfl (lfA_and (by omega) h1) (wp_isub (q := 20) dX1_keepsOrder_19 rfl (by omega) (by omega) (wp_is3 (q := 21) dX1_keepsOrder_20 rfl rfl (wp_il3 (q := 22) dX1_keepsOrder_21 rfl (wp_if_lt (t := 45) (q := 25) dX1_keepsOrder_22 rfl rfl (fun c22 => ?_) (fun c22 => ?_)))))))))
    · exfalso; omega
    · refine wp_il3 (q := 26) dX1_keepsOrder_25 rfl (wp_bi (q := 28) dX1_keepsOrder_26 rfl (by decide) (by decide) (wp_icmp_ge (t := 45) (q := 31) dX1_keepsOrder_28 rfl rfl (fun c28 => ?_) (fun c28 => ?_)))
      · exfalso; omega
      · refine wp_al0 (q := 32) dX1_keepsOrder_31 rfl (wp_getf (q := 35) dX1_keepsOrder_32 rfl f13 a0 a1 rfl (fun z => nomatch z) (wp_il3 (q := 36) dX1_keepsOrder_35 rfl (wp_iaload (q := 37) dX1_keepsOrder_36 rfl a2 (by omega) (by omega) (wp_il2 (q := 38) dX1_keepsOrder_37 rfl (wp_icmp_ge (t := 45) (q := 41) dX1_keepsOrder_38 rfl rfl (fun c38 => ?_) (fun c38 => ?_))))))
        · refine wp_ic (q := 46) dX1_keepsOrder_45 rfl (by decide) (by decide) (wp_bret dX1_keepsOrder_46 rfl (by first | exact Or.inl rfl | exact Or.inr rfl | exact bI_01) ?_)
          rw [show x - (x - lfA x) = lfA x by omega] at c38
          refine ⟨rI ?_, rfl⟩
          show _ = bI ((x = 0 ∧ v = 0) ∨ (x ≠ 0 ∧ rw.getD (lfA x).toNat 0 < v))
          unfold bI
          split <;> omega
        · refine wp_ic (q := 42) dX1_keepsOrder_41 rfl (by decide) (by decide) (wp_goto (q := 46) dX1_keepsOrder_42 rfl (wp_bret dX1_keepsOrder_46 rfl (by first | exact Or.inl rfl | exact Or.inr rfl | exact bI_01) ?_))
          rw [show x - (x - lfA x) = lfA x by omega] at c38
          refine ⟨rI ?_, rfl⟩
          show _ = bI ((x = 0 ∧ v = 0) ∨ (x ≠ 0 ∧ rw.getD (lfA x).toNat 0 < v))
          unfold bI
          split <;> omega
  · refine wp_il2 (q := 5) dX1_keepsOrder_4 rfl (wp_if_ne (t := 12) (q := 8) dX1_keepsOrder_5 rfl rfl (fun c5 => ?_) (fun c5 => ?_))
    · refine wp_ic (q := 13) dX1_keepsOrder_12 rfl (by decide) (by decide) (wp_bret dX1_keepsOrder_13 rfl (by first | exact Or.inl rfl | exact Or.inr rfl | exact bI_01) ?_)
      refine ⟨rI ?_, rfl⟩
      unfold bI
      split <;> omega
    · refine wp_ic (q := 9) dX1_keepsOrder_8 rfl (by decide) (by decide) (wp_goto (q := 13) dX1_keepsOrder_9 rfl (wp_bret dX1_keepsOrder_13 rfl (by first | exact Or.inl rfl | exact Or.inr rfl | exact bI_01) ?_))
      refine ⟨rI ?_, rfl⟩
      unfold bI
      split <;> omega
abbrev kaA (ro : List Int) (f : Int → Int) (x : Nat) (v : Int) : Prop := ∀ o : Nat, o < x → (f o = 8 ∨ chA ro (f o) v 1 ≤ mrA o x)
theorem ct_keepsApart (d : Nat) {h : List mC} {k : Nat} {ln : Int} {rw rs lo : List Int} (hL : LiAt h k ln rw rs lo) {q x : Nat} {n : Int} {ch ro : List Int} (hR : RoAt h q n ch ro) {v : Int} (h1 : x < 8) (hv0 : 0 ≤ v) (hv : v ≤ 8) (hrw : ∀ o : Nat, o < x → 0 ≤ gI rw o ∧ gI rw o ≤ 8) : Rt (d + 1) mX1_keepsApart [mR k, mR q, mI x, mI v] h (some (mI (bI (kaA ro (gI rw) x v)))) h := by
  obtain ⟨a0, a1, a2, a3, a4, a5, a6, a7, a8, a9⟩ := id hL
  obtain ⟨r0, r1, r2, r3, r4, r5⟩ := id hR
  have key : ∀ (j : Nat), j ≤ x → ∀ (y : Int), y = j → (∀ o : Nat, o < j → (gI rw o = 8 ∨ chA ro (gI rw o) v 1 ≤ mrA o x)) → Wp (d + 1) mX1_keepsApart 3 [mR k, mR q, mI x, mI v, mI y] [] h (0, 0) (fun r' h' => r' = some (mI (bI (kaA ro (gI rw) x v))) ∧ h' = h) := by
    refine loop_up x _ ?_ ?_
    · intro y hy hc
      refine wp_il4 (q := 5) dX1_keepsApart_3 rfl (wp_il2 (q := 6) dX1_keepsApart_5 rfl (wp_icmp_ge (t := 57) (q := 9) dX1_keepsApart_6 rfl rfl (fun c6 => ?_) (fun c6 => ?_)))
      · refine wp_ic (q := 58) dX1_keepsApart_57 rfl (by decide) (by decide) (wp_bret dX1_keepsApart_58 rfl (by first | exact Or.inl rfl | exact Or.inr rfl | exact bI_01) ?_)
        exact ⟨rI (bI_t hc).symm, rfl⟩
      · exfalso; omega
    · intro j hj ih y hy hc
      have hb := hrw j hj
      rw [← hy] at hb
      have e9 : rw.getD y.toNat 0 = gI rw y := rfl
      refine wp_il4 (q := 5) dX1_keepsApart_3 rfl (wp_il2 (q := 6) dX1_keepsApart_5 rfl (wp_icmp_ge (t := 57) (q := 9) dX1_keepsApart_6 rfl rfl (fun c6 => ?_) (fun c6 => ?_)))
      · exfalso; omega
      · refine wp_il4 (q := 11) dX1_keepsApart_9 rfl (wp_bi (q := 13) dX1_keepsApart_11 rfl (by decide) (by decide) (wp_icmp_ge (t := 57) (q := 16) dX1_keepsApart_13 rfl rfl (fun c13 => ?_) (fun c13 => ?_)))
        · exfalso; omega
        · refine wp_al0 (q := 17) dX1_keepsApart_16 rfl (wp_getf (q := 20) dX1_keepsApart_17 rfl f13 a0 a1 rfl (fun z => nomatch z) (wp_il4 (q := 22) dX1_keepsApart_20 rfl (wp_iaload (q := 23) dX1_keepsApart_22 rfl a2 (by omega) (by omega) (wp_bi (q := 25) dX1_keepsApart_23 rfl (by decide) (by decide) (wp_icmp_eq (t := 51) (q := 28) dX1_keepsApart_25 rfl rfl (fun c25 => ?_) (fun c25 => ?_))))))
          · refine wp_ii4 (q := 54) dX1_keepsApart_51 rfl rfl (by omega) (by omega) (wp_goto (q := 3) dX1_keepsApart_54 rfl ?_)
            refine ih _ (by omega) (fun o ho => ?_)
            by_cases e : o = j
            · rw [e, ← hy]
              first
                | exact Or.inl c25
                | exact Or.inr c46
            · exact hc o (by omega)
          · refine wp_il4 (q := 30) dX1_keepsApart_28 rfl (wp_il2 (q := 31) dX1_keepsApart_30 rfl (wp_n2I (q := 34) dX1_keepsApart_31 rfl q82 (Nat.le_of_ble_eq_true rfl) rfl rfl rfl (ct_meetingRound d (by omega) (by omega) (by omega) (by omega)) (wp_al1 (q := 35) dX1_keepsApart_34 rfl (wp_al0 (q := 36) dX1_keepsApart_35 rfl (wp_getf (q := 39) dX1_keepsApart_36 rfl f13 a0 a1 rfl (fun z => nomatch z) (wp_il4 (q := 41) dX1_keepsApart_39 rfl (wp_iaload (q := 42) dX1_keepsApart_41 rfl a2 (by omega) (by omega) (wp_il3 (q := 43) dX1_keepsApart_42 rfl (wp_v2I (q := 46) dX1_keepsApart_43 rfl q83 (Nat.le_of_ble_eq_true rfl) rfl r0 r1 rfl rfl (ct_apartUntil d hR (by omega) (by omega) (by omega) (by omega)) (wp_icmp_ge (t := 51) (q := 49) dX1_keepsApart_46 rfl rfl (fun c46 => ?_) (fun c46 => ?_)))))))))))
            · refine wp_ii4 (q := 54) dX1_keepsApart_51 rfl rfl (by omega) (by omega) (wp_goto (q := 3) dX1_keepsApart_54 rfl ?_)
              refine ih _ (by omega) (fun o ho => ?_)
              by_cases e : o = j
              · rw [e, ← hy]
                first
                  | exact Or.inl c25
                  | exact Or.inr c46
              · exact hc o (by omega)
            · refine wp_ic (q := 50) dX1_keepsApart_49 rfl (by decide) (by decide) (wp_bret dX1_keepsApart_50 rfl (by first | exact Or.inl rfl | exact Or.inr rfl | exact bI_01) ?_)
              refine ⟨rI (bI_f (fun z => ?_)).symm, rfl⟩
              have z1 := z j hj
              rw [← hy] at z1
              rcases z1 with z1 | z1
              · exact c25 z1
              · have c46' : mrA y x < chA ro (gI rw y) v 1 := c46
                omega
  show Wp _ mX1_keepsApart 0 [mR k, mR q, mI x, mI v, mU] [] h (0, 0) _
  refine wp_ic (q := 1) dX1_keepsApart_0 rfl (by decide) (by decide) (wp_is4 (q := 3) dX1_keepsApart_1 rfl rfl ?_)
  exact key 0 (Nat.zero_le _) 0 rfl (fun x hx => by omega)
