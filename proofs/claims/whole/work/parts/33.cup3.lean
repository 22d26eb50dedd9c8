/-! CupDraws: what stands on a weighed cup (rows laid by wip/whole) -/
/-- the odds are those of the places, winners, chances -/
def WgOk (sz : Nat) (ch pl wi od : List Int) : Prop := ∀ r : Nat, (r : Int) ≤ lrA sz → ∀ x : Int, 0 ≤ x → x < sz → odA od r x = odR pl wi ch sz r x
theorem cr_weigh {d : Nat} {h : List mC} {k q : Nat} {sz : Nat} {n : Int} {pl wi od ch ro : List Int} (hB : BrAt h k sz pl wi od) (hR : RoAt h q n ch ro) (hp : h[0]? = some (mJ mPT)) (hch : chB ch) (hqk : k + 4 ≤ q ∨ q + 3 ≤ k) (hpl : v8 pl) : Ct (d + 4) mX0_weigh [mR k, mR q] h (fun r9 h9 => r9 = none ∧ ∃ od', BrAt h9 k sz pl wi od' ∧ WgOk sz ch pl wi od' ∧ ∀ j : Nat, (j < k ∨ k + 4 ≤ j) → h9[j]? = h[j]?) :=
  wp_post (ct_weigh d hB hR hp hch hqk hpl) (by
    rintro r9 h9 ⟨rfl, od', hl, rfl, hr⟩
    exact ⟨rfl, od', hB.setO hl, hr, fun j hj => by rw [fr_set (by omega)]⟩)
theorem WgOk.at {sz : Nat} {ch pl wi od : List Int} (hw : WgOk sz ch pl wi od) {r x : Int} (r0 : 0 ≤ r) (r1 : r ≤ lrA sz) (x0 : 0 ≤ x) (x1 : x < sz) : odA od r x = odR pl wi ch sz r.toNat x := by
  have := hw r.toNat (by omega) x x0 x1
  rw [show ((r.toNat : Nat) : Int) = r by omega] at this
  exact this
theorem WgOk.in {sz : Nat} {ch pl wi od : List Int} (hs : (sz : Int) = 2 ∨ (sz : Int) = 4 ∨ (sz : Int) = 8) (hch : chB ch) (hw : WgOk sz ch pl wi od) {r x : Int} (r0 : 0 ≤ r) (r1 : r ≤ lrA sz) (x1 : x < sz) : 0 ≤ odA od r x ∧ odA od r x ≤ bdA r.toNat := by
  have l3 := (lrA_in hs).2
  by_cases x0 : 0 ≤ x
  · rw [hw.at r0 r1 x0 x1]
    exact odR_in hch r.toNat (by omega) x
  · have e : odA od r x = 0 := by unfold odA; rw [if_neg (by omega)]
    have := (odR_in (pl := pl) (wi := wi) (sz := sz) hch r.toNat (by omega) x)
    omega
theorem plO_in {pl : List Int} {sz : Nat} {v : Int} : -1 ≤ plO pl sz v ∧ plO pl sz v < sz := by
  unfold plO
  split
  · omega
  · have := fndF_in (f := rd8 pl) (v := v) (n := (sz : Int).toNat) _ (Nat.le_refl _)
    omega
def spWon (n sz : Nat) (pl wi od : List Int) (m x : Int) : Int := if ¬ ((0 ≤ m ∧ m < (sz : Int) - 1) ∧ (0 ≤ x ∧ x < n)) then -1 else if ¬ (mbA pl wi od sz m ∧ ccA od sz m (plO pl sz x)) then -3 else dcA sz (sI wi m x)
theorem cs_won (d : Nat) {h : List mC} {k n sz : Nat} {ch ro pl wi : List Int} (hS : CS h k n sz ch ro pl wi) (hpl : v8 pl) (hch : chB ch) (hn : n ≤ 8) {m x : Int} : Ct (d + 6) mX3_won [mR k, mI m, mI x] h (fun r9 h9 => ∃ od : List Int, (((0 ≤ m ∧ m < (sz : Int) - 1) ∧ (0 ≤ x ∧ x < n)) → WgOk sz ch pl wi od) ∧ r9 = some (mI (spWon n sz pl wi od m x)) ∧ (if ((0 ≤ m ∧ m < (sz : Int) - 1) ∧ (0 ≤ x ∧ x < n)) ∧ mbA pl wi od sz m ∧ ccA od sz m (plO pl sz x) then CS h9 k n sz ch ro pl (sI wi m x) else CS h9 k n sz ch ro pl wi) ∧ ∀ j : Nat, (j < k ∨ k + 16 ≤ j) → h9[j]? = h[j]?) := by
  obtain ⟨li, we, od, tsz, tpl, twi, tod, ln, rw, rs, lo, hU, hvr, hli, hwe, hlr, hlw, hf0⟩ := id hS
  obtain ⟨hC, hR, hB, hT, hL, hp⟩ := id hU
  obtain ⟨c0, c1⟩ := id hC
  obtain ⟨r0, r1, r2, r3, r4, r5⟩ := id hR
  obtain ⟨b0, b1, b2, b3, b4, b5, b6, b7, b8⟩ := id hB
  obtain ⟨t0, t1, t2, t3, t4, t5, t6, t7, t8⟩ := id hT
  obtain ⟨a0, a1, a2, a3, a4, a5, a6, a7, a8, a9⟩ := id hL
  have hpo := plO_in (pl := pl) (sz := sz) (v := x)
  show Wp _ mX3_won 0 [mR k, mI m, mI x] [] h (0, 0) _
  refine wp_al0 (q := 1) dX3_won_0 rfl (wp_getf (q := 4) dX3_won_1 rfl f17 c0 c1 rfl (fun z => nomatch z) (wp_il1 (q := 5) dX3_won_4 rfl (wp_v1I (q := 8) dX3_won_5 rfl q33 (Nat.le_of_ble_eq_true rfl) rfl b0 b1 rfl rfl ((ct_hasMatch 0 hB).up (by omega)) (wp_ifb_eq (t := 22) (q := 11) dX3_won_8 rfl rfl (fun c8 => ?_) (fun c8 => ?_)))))
  · refine wp_ic (q := 23) dX3_won_22 rfl (by decide) (by decide) (wp_iret dX3_won_23 rfl ?_)
    exact ⟨od, fun z => absurd z (by omega), rI (by unfold spWon; rw [if_pos (by omega)]), by rw [if_neg (fun z => absurd z.1 (by omega))]; exact hS, fun _ _ => rfl⟩
  · refine wp_al0 (q := 12) dX3_won_11 rfl (wp_getf (q := 15) dX3_won_12 rfl f16 c0 c1 rfl (fun z => nomatch z) (wp_il2 (q := 16) dX3_won_15 rfl (wp_v1I (q := 19) dX3_won_16 rfl q14 (Nat.le_of_ble_eq_true rfl) rfl r0 r1 rfl rfl ((ct_Rhas 0 hR).up (by omega)) (wp_ifb_ne (t := 24) (q := 22) dX3_won_19 rfl rfl (fun c19 => ?_) (fun c19 => ?_)))))
    · refine wp_al0 (q := 25) dX3_won_24 rfl (wp_getf (q := 28) dX3_won_25 rfl f17 c0 c1 rfl (fun z => nomatch z) (wp_al0 (q := 29) dX3_won_28 rfl (wp_getf (q := 32) dX3_won_29 rfl f16 c0 c1 rfl (fun z => nomatch z) (wp_v1 (q := 35) dX3_won_32 rfl q34 (Nat.le_of_ble_eq_true rfl) rfl b0 b1 rfl rfl (cr_weigh (d := d + 1) hB hR hp hch (by omega) hpl) (fun r9 h9 e9 => ?_)))))
      obtain ⟨rfl, od2, hB9, hwg, hf10⟩ := e9
      have hU := hU.fBr hB9 hf10
      obtain ⟨hC, hR, hB, hT, hL, hp⟩ := id hU
      obtain ⟨c0, c1⟩ := id hC
      obtain ⟨r0, r1, r2, r3, r4, r5⟩ := id hR
      obtain ⟨b0, b1, b2, b3, b4, b5, b6, b7, b8⟩ := id hB
      obtain ⟨t0, t1, t2, t3, t4, t5, t6, t7, t8⟩ := id hT
      obtain ⟨a0, a1, a2, a3, a4, a5, a6, a7, a8, a9⟩ := id hL
      show Wp _ _ _ _ [] _ _ _
      refine wp_al0 (q := 36) dX3_won_35 rfl (wp_getf (q := 39) dX3_won_36 rfl f17 c0 c1 rfl (fun z => nomatch z) (wp_il1 (q := 40) dX3_won_39 rfl (wp_v1I (q := 43) dX3_won_40 rfl q44 (Nat.le_of_ble_eq_true rfl) rfl b0 b1 rfl rfl (ct_mayBeDecided d hB (by omega) (by omega)) (wp_ifb_eq (t := 65) (q := 46) dX3_won_43 rfl rfl (fun c43 => ?_) (fun c43 => ?_)))))
      · refine wp_bi (q := 67) dX3_won_65 rfl (by decide) (by decide) (wp_iret dX3_won_67 rfl ?_)
        refine ⟨od2, fun _ => hwg, rI ?_, ?_, fun j hj => hf10 j (by omega)⟩
        · unfold spWon
          rw [if_neg (fun z => z (by omega))]
          first
            | rw [if_pos (fun z => c43 z.1)]
            | rw [if_pos (fun z => c62 z.2)]
        · first
            | rw [if_neg (fun z => c43 z.2.1)]
            | rw [if_neg (fun z => c62 z.2.2)]
          exact ⟨li, we, od2, tsz, tpl, twi, tod, ln, rw, rs, lo, hU, hvr, hli, hwe, hlr, hlw, trivial⟩
      · refine wp_al0 (q := 47) dX3_won_46 rfl (wp_getf (q := 50) dX3_won_47 rfl f17 c0 c1 rfl (fun z => nomatch z) (wp_il1 (q := 51) dX3_won_50 rfl (wp_al0 (q := 52) dX3_won_51 rfl (wp_getf (q := 55) dX3_won_52 rfl f17 c0 c1 rfl (fun z => nomatch z) (wp_il2 (q := 56) dX3_won_55 rfl (wp_v1I (q := 59) dX3_won_56 rfl q25 (Nat.le_of_ble_eq_true rfl) rfl b0 b1 rfl rfl ((ct_placeOf 0 hB).up (by omega)) (wp_v2I (q := 62) dX3_won_59 rfl q52 (Nat.le_of_ble_eq_true rfl) rfl b0 b1 rfl rfl ((ct_canCome 0 hB (by omega) (by omega) (by omega) (by omega)).up (by omega)) (wp_ifb_ne (t := 68) (q := 65) dX3_won_62 rfl rfl (fun c62 => ?_) (fun c62 => ?_)))))))))
        · refine wp_al0 (q := 69) dX3_won_68 rfl (wp_getf (q := 72) dX3_won_69 rfl f17 c0 c1 rfl (fun z => nomatch z) (wp_il1 (q := 73) dX3_won_72 rfl (wp_il2 (q := 74) dX3_won_73 rfl (wp_v2 (q := 77) dX3_won_74 rfl q53 (Nat.le_of_ble_eq_true rfl) rfl b0 b1 rfl rfl ((cr_setWinner (d := d + 5) hB (by omega) (by omega))) (fun r9 h9 e9 => ?_)))))
          obtain ⟨rfl, hB8, hf11⟩ := e9
          have hU := hU.fBr hB8 hf11
          obtain ⟨hC, hR, hB, hT, hL, hp⟩ := id hU
          obtain ⟨c0, c1⟩ := id hC
          obtain ⟨r0, r1, r2, r3, r4, r5⟩ := id hR
          obtain ⟨b0, b1, b2, b3, b4, b5, b6, b7, b8⟩ := id hB
          obtain ⟨t0, t1, t2, t3, t4, t5, t6, t7, t8⟩ := id hT
          obtain ⟨a0, a1, a2, a3, a4, a5, a6, a7, a8, a9⟩ := id hL
          show Wp _ _ _ _ [] _ _ _
          refine wp_al0 (q := 78) dX3_won_77 rfl (wp_getf (q := 81) dX3_won_78 rfl f17 c0 c1 rfl (fun z => nomatch z) (wp_v0I (q := 84) dX3_won_81 rfl q54 (Nat.le_of_ble_eq_true rfl) rfl b0 b1 rfl rfl ((ct_decidedMatches 0 hB).up (by omega)) (wp_iret dX3_won_84 rfl ?_)))
          refine ⟨od2, fun _ => hwg, rI ?_, ?_, fun j hj => by rw [hf11 j (by omega)]; exact hf10 j (by omega)⟩
          · unfold spWon
            rw [if_neg (fun z => z (by omega)), if_neg (fun z => z ⟨c43, c62⟩)]
            rfl
          · rw [if_pos ⟨by omega, c43, c62⟩]
            exact ⟨li, we, od2, tsz, tpl, twi, tod, ln, rw, rs, lo, hU, hvr, hli, hwe, hlr, hlw, trivial⟩
        · refine wp_bi (q := 67) dX3_won_65 rfl (by decide) (by decide) (wp_iret dX3_won_67 rfl ?_)
          refine ⟨od2, fun _ => hwg, rI ?_, ?_, fun j hj => hf10 j (by omega)⟩
          · unfold spWon
            rw [if_neg (fun z => z (by omega))]
            first
              | rw [if_pos (fun z => c43 z.1)]
              | rw [if_pos (fun z => c62 z.2)]
          · first
              | rw [if_neg (fun z => c43 z.2.1)]
              | rw [if_neg (fun z => c62 z.2.2)]
            exact ⟨li, we, od2, tsz, tpl, twi, tod, ln, rw, rs, lo, hU, hvr, hli, hwe, hlr, hlw, trivial⟩
    · refine wp_ic (q := 23) dX3_won_22 rfl (by decide) (by decide) (wp_iret dX3_won_23 rfl ?_)
      exact ⟨od, fun z => absurd z (by omega), rI (by unfold spWon; rw [if_pos (by omega)]), by rw [if_neg (fun z => absurd z.1 (by omega))]; exact hS, fun _ _ => rfl⟩
def spMatch (sz : Nat) (pl wi od : List Int) (m x : Int) : Int := if ¬ (0 ≤ m ∧ m < (sz : Int) - 1) then -1 else if x = 0 then rdO sz m else if x = 1 then kdA pl wi sz m else if x = 2 then tld (rd8 wi m) else if x = 3 then cmA od sz m else -2
theorem cs_match (d : Nat) {h : List mC} {k n sz : Nat} {ch ro pl wi : List Int} (hS : CS h k n sz ch ro pl wi) (hpl : v8 pl) (hch : chB ch) (hn : n ≤ 8) {m x : Int} : Ct (d + 6) mX3_match [mR k, mI m, mI x] h (fun r9 h9 => ∃ od : List Int, ((0 ≤ m ∧ m < (sz : Int) - 1) → x = 3 → WgOk sz ch pl wi od) ∧ r9 = some (mI (spMatch sz pl wi od m x)) ∧ CS h9 k n sz ch ro pl wi ∧ ∀ j : Nat, (j < k ∨ k + 16 ≤ j) → h9[j]? = h[j]?) := by
  obtain ⟨li, we, od, tsz, tpl, twi, tod, ln, rw, rs, lo, hU, hvr, hli, hwe, hlr, hlw, hf0⟩ := id hS
  obtain ⟨hC, hR, hB, hT, hL, hp⟩ := id hU
  obtain ⟨c0, c1⟩ := id hC
  obtain ⟨r0, r1, r2, r3, r4, r5⟩ := id hR
  obtain ⟨b0, b1, b2, b3, b4, b5, b6, b7, b8⟩ := id hB
  obtain ⟨t0, t1, t2, t3, t4, t5, t6, t7, t8⟩ := id hT
  obtain ⟨a0, a1, a2, a3, a4, a5, a6, a7, a8, a9⟩ := id hL
  show Wp _ mX3_match 0 [mR k, mI m, mI x] [] h (0, 0) _
  refine wp_al0 (q := 1) dX3_match_0 rfl (wp_getf (q := 4) dX3_match_1 rfl f17 c0 c1 rfl (fun z => nomatch z) (wp_il1 (q := 5) dX3_match_4 rfl (wp_v1I (q := 8) dX3_match_5 rfl q33 (Nat.le_of_ble_eq_true rfl) rfl b0 b1 rfl rfl ((ct_hasMatch 0 hB).up (by omega)) (wp_ifb_ne (t := 13) (q := 11) dX3_match_8 rfl rfl (fun c8 => ?_) (fun c8 => ?_)))))
  · refine wp_il2 (q := 14) dX3_match_13 rfl ?_
    rcases (show x = 0 ∨ x = 1 ∨ x = 2 ∨ x = 3 ∨ (x < 0 ∨ 3 < x) by omega) with rfl | rfl | rfl | rfl | hts
    · refine wp_tsi (off := 30) (t := 44) dX3_match_14 (by decide) (by decide) (by decide) rfl ?_
      refine wp_al0 (q := 45) dX3_match_44 rfl (wp_getf (q := 48) dX3_match_45 rfl f17 c0 c1 rfl (fun z => nomatch z) (wp_il1 (q := 49) dX3_match_48 rfl (wp_v1I (q := 52) dX3_match_49 rfl q61 (Nat.le_of_ble_eq_true rfl) rfl b0 b1 rfl rfl ((ct_roundOf 0 hB (by omega)).up (by omega)) (wp_iret dX3_match_52 rfl ?_))))
      exact ⟨od, fun _ z => absurd z (by decide), rI (by unfold spMatch; rw [if_neg (fun z => z c8)]; rfl), hS, fun _ _ => rfl⟩
    · refine wp_tsi (off := 39) (t := 53) dX3_match_14 (by decide) (by decide) (by decide) rfl ?_
      refine wp_al0 (q := 54) dX3_match_53 rfl (wp_getf (q := 57) dX3_match_54 rfl f17 c0 c1 rfl (fun z => nomatch z) (wp_il1 (q := 58) dX3_match_57 rfl (wp_v1I (q := 61) dX3_match_58 rfl q62 (Nat.le_of_ble_eq_true rfl) rfl b0 b1 rfl rfl ((ct_kindOf 0 hB (by omega) (by omega)).up (by omega)) (wp_iret dX3_match_61 rfl ?_))))
      exact ⟨od, fun _ z => absurd z (by decide), rI (by unfold spMatch; rw [if_neg (fun z => z c8)]; rfl), hS, fun _ _ => rfl⟩
    · refine wp_tsi (off := 48) (t := 62) dX3_match_14 (by decide) (by decide) (by decide) rfl ?_
      refine wp_al0 (q := 63) dX3_match_62 rfl (wp_getf (q := 66) dX3_match_63 rfl f17 c0 c1 rfl (fun z => nomatch z) (wp_il1 (q := 67) dX3_match_66 rfl (wp_v1I (q := 70) dX3_match_67 rfl q56 (Nat.le_of_ble_eq_true rfl) rfl b0 b1 rfl rfl ((ct_winnerOf 0 hB).up (by omega)) (wp_s1I (q := 73) dX3_match_70 rfl q30 (Nat.le_of_ble_eq_true rfl) rfl rfl rfl (ct_told (d + 5)) (wp_iret dX3_match_73 rfl ?_)))))
      exact ⟨od, fun _ z => absurd z (by decide), rI (by unfold spMatch; rw [if_neg (fun z => z c8)]; rfl), hS, fun _ _ => rfl⟩
    · refine wp_tsi (off := 60) (t := 74) dX3_match_14 (by decide) (by decide) (by decide) rfl ?_
      refine wp_al0 (q := 75) dX3_match_74 rfl (wp_getf (q := 78) dX3_match_75 rfl f17 c0 c1 rfl (fun z => nomatch z) (wp_al0 (q := 79) dX3_match_78 rfl (wp_getf (q := 82) dX3_match_79 rfl f16 c0 c1 rfl (fun z => nomatch z) (wp_v1 (q := 85) dX3_match_82 rfl q34 (Nat.le_of_ble_eq_true rfl) rfl b0 b1 rfl rfl (cr_weigh (d := d + 1) hB hR hp hch (by omega) hpl) (fun r9 h9 e9 => ?_)))))
      obtain ⟨rfl, od2, hB9, hwg, hf10⟩ := e9
      have hU := hU.fBr hB9 hf10
      obtain ⟨hC, hR, hB, hT, hL, hp⟩ := id hU
      obtain ⟨c0, c1⟩ := id hC
      obtain ⟨r0, r1, r2, r3, r4, r5⟩ := id hR
      obtain ⟨b0, b1, b2, b3, b4, b5, b6, b7, b8⟩ := id hB
      obtain ⟨t0, t1, t2, t3, t4, t5, t6, t7, t8⟩ := id hT
      obtain ⟨a0, a1, a2, a3, a4, a5, a6, a7, a8, a9⟩ := id hL
      show Wp _ _ _ _ [] _ _ _
      refine wp_al0 (q := 86) dX3_match_85 rfl (wp_getf (q := 89) dX3_match_86 rfl f17 c0 c1 rfl (fun z => nomatch z) (wp_il1 (q := 90) dX3_match_89 rfl (wp_v1I (q := 93) dX3_match_90 rfl q63 (Nat.le_of_ble_eq_true rfl) rfl b0 b1 rfl rfl ((ct_comers 0 hB (by omega) (by omega)).up (by omega)) (wp_iret dX3_match_93 rfl ?_))))
      exact ⟨od2, fun _ _ => hwg, rI (by unfold spMatch; rw [if_neg (fun z => z c8)]; rfl), ⟨li, we, od2, tsz, tpl, twi, tod, ln, rw, rs, lo, hU, hvr, hli, hwe, hlr, hlw, trivial⟩, fun j hj => hf10 j (by omega)⟩
    · refine wp_tso (t := 94) dX3_match_14 hts rfl ?_
      refine wp_bi (q := 96) dX3_match_94 rfl (by decide) (by decide) (wp_iret dX3_match_96 rfl ?_)
      exact ⟨od, fun _ z => absurd z (by omega), rI (by unfold spMatch; rw [if_neg (fun z => z c8), if_neg (by omega), if_neg (by omega), if_neg (by omega), if_neg (by omega)]), hS, fun _ _ => rfl⟩
  · refine wp_ic (q := 12) dX3_match_11 rfl (by decide) (by decide) (wp_iret dX3_match_12 rfl ?_)
    exact ⟨od, fun z => absurd z c8, rI (by unfold spMatch; rw [if_pos c8]), hS, fun _ _ => rfl⟩
theorem ptsR {r : Int} (h0 : 0 ≤ r) (h3 : r ≤ 3) : 1 ≤ pts r ∧ pts r ≤ 35831808 := by
  rcases (show r = 0 ∨ r = 1 ∨ r = 2 ∨ r = 3 by omega) with rfl | rfl | rfl | rfl <;> decide
theorem bdA_top (r : Nat) : bdA r ≤ 75144747810816 := by
  unfold bdA
  (repeat' split) <;> decide
def spReach (n sz : Nat) (pl od : List Int) (x r : Int) (up : Prop) [Decidable up] : Int := if ¬ (0 ≤ x ∧ x < n) then -1 else if r < 0 ∨ lrA sz < r then -2 else fcA (odA od r (plO pl sz x)) (pts r) up
theorem cs_reach (d : Nat) {h : List mC} {k n sz : Nat} {ch ro pl wi : List Int} (hS : CS h k n sz ch ro pl wi) (hpl : v8 pl) (hch : chB ch) (hn : n ≤ 8) {x r : Int} {up : Prop} [Decidable up] : Ct (d + 6) mX3_reach [mR k, mI x, mI r, mI (bI up)] h (fun r9 h9 => ∃ od : List Int, ((0 ≤ x ∧ x < n) → (0 ≤ r ∧ r ≤ lrA sz) → WgOk sz ch pl wi od) ∧ r9 = some (mL (spReach n sz pl od x r up)) ∧ CS h9 k n sz ch ro pl wi ∧ ∀ j : Nat, (j < k ∨ k + 16 ≤ j) → h9[j]? = h[j]?) := by
  obtain ⟨li, we, od, tsz, tpl, twi, tod, ln, rw, rs, lo, hU, hvr, hli, hwe, hlq, hlw, hf0⟩ := id hS
  obtain ⟨hC, hR, hB, hT, hL, hp⟩ := id hU
  obtain ⟨c0, c1⟩ := id hC
  obtain ⟨r0, r1, r2, r3, r4, r5⟩ := id hR
  obtain ⟨b0, b1, b2, b3, b4, b5, b6, b7, b8⟩ := id hB
  obtain ⟨t0, t1, t2, t3, t4, t5, t6, t7, t8⟩ := id hT
  obtain ⟨a0, a1, a2, a3, a4, a5, a6, a7, a8, a9⟩ := id hL
  have hpo := plO_in (pl := pl) (sz := sz) (v := x)
  have hlr := lrA_in b8
  show Wp _ mX3_reach 0 [mR k, mI x, mI r, mI (bI up)] [] h (0, 0) _
  refine wp_al0 (q := 1) dX3_reach_0 rfl (wp_getf (q := 4) dX3_reach_1 rfl f16 c0 c1 rfl (fun z => nomatch z) (wp_il1 (q := 5) dX3_reach_4 rfl (wp_v1I (q := 8) dX3_reach_5 rfl q14 (Nat.le_of_ble_eq_true rfl) rfl r0 r1 rfl rfl ((ct_Rhas 0 hR).up (by omega)) (wp_ifb_ne (t := 15) (q := 11) dX3_reach_8 rfl rfl (fun c8 => ?_) (fun c8 => ?_)))))
  · refine wp_il2 (q := 16) dX3_reach_15 rfl (wp_if_lt (t := 30) (q := 19) dX3_reach_16 rfl rfl (fun c16 => ?_) (fun c16 => ?_))
    · refine wp_ldl (-2) (q := 33) dX3_reach_30 rfl l2 (by decide) (by decide) (wp_lret dX3_reach_33 rfl ?_)
      exact ⟨od, fun _ z => absurd z (by omega), rJ (by unfold spReach; rw [if_neg (fun z => z c8), if_pos (by omega)]), hS, fun _ _ => rfl⟩
    · refine wp_il2 (q := 20) dX3_reach_19 rfl (wp_al0 (q := 21) dX3_reach_20 rfl (wp_getf (q := 24) dX3_reach_21 rfl f17 c0 c1 rfl (fun z => nomatch z) (wp_v0I (q := 27) dX3_reach_24 rfl q65 (Nat.le_of_ble_eq_true rfl) rfl b0 b1 rfl rfl ((ct_lastRound 0 hB).up (by omega)) (wp_icmp_le (t := 34) (q := 30) dX3_reach_27 rfl rfl (fun c27 => ?_) (fun c27 => ?_)))))
      · refine wp_al0 (q := 35) dX3_reach_34 rfl (wp_getf (q := 38) dX3_reach_35 rfl f17 c0 c1 rfl (fun z => nomatch z) (wp_al0 (q := 39) dX3_reach_38 rfl (wp_getf (q := 42) dX3_reach_39 rfl f16 c0 c1 rfl (fun z => nomatch z) (wp_v1 (q := 45) dX3_reach_42 rfl q34 (Nat.le_of_ble_eq_true rfl) rfl b0 b1 rfl rfl (cr_weigh (d := d + 1) hB hR hp hch (by omega) hpl) (fun r9 h9 e9 => ?_)))))
        obtain ⟨rfl, od2, hB9, hwg, hf10⟩ := e9
        have hU := hU.fBr hB9 hf10
        obtain ⟨hC, hR, hB, hT, hL, hp⟩ := id hU
        obtain ⟨c0, c1⟩ := id hC
        obtain ⟨r0, r1, r2, r3, r4, r5⟩ := id hR
        obtain ⟨b0, b1, b2, b3, b4, b5, b6, b7, b8⟩ := id hB
        obtain ⟨t0, t1, t2, t3, t4, t5, t6, t7, t8⟩ := id hT
        obtain ⟨a0, a1, a2, a3, a4, a5, a6, a7, a8, a9⟩ := id hL
        show Wp _ _ _ _ [] _ _ _
        have hi := hwg.in b8 hch (r := r) (x := plO pl sz x) (by omega) (by omega) (by omega)
        have hi2 := bdA_top r.toNat
        have hi3 := ptsR (r := r) (by omega) (by omega)
        refine wp_al0 (q := 46) dX3_reach_45 rfl (wp_getf (q := 49) dX3_reach_46 rfl f17 c0 c1 rfl (fun z => nomatch z) (wp_il2 (q := 50) dX3_reach_49 rfl (wp_al0 (q := 51) dX3_reach_50 rfl (wp_getf (q := 54) dX3_reach_51 rfl f17 c0 c1 rfl (fun z => nomatch z) (wp_il1 (q := 55) dX3_reach_54 rfl (wp_v1I (q := 58) dX3_reach_55 rfl q25 (Nat.le_of_ble_eq_true rfl) rfl b0 b1 rfl rfl ((ct_placeOf 0 hB).up (by omega)) (wp_v2I (q := 61) dX3_reach_58 rfl q66 (Nat.le_of_ble_eq_true rfl) rfl b0 b1 rfl rfl ((ct_oddsOf 0 hB (by omega) (by omega) (by omega) (by omega)).up (by omega)) (wp_il2 (q := 62) dX3_reach_61 rfl (wp_s1I (q := 65) dX3_reach_62 rfl q67 (Nat.le_of_ble_eq_true rfl) rfl rfl rfl ((ct_partsOf 0 hp).up (by omega)) (wp_il3 (q := 66) dX3_reach_65 rfl (wp_s3I (q := 69) dX3_reach_66 rfl q68 (Nat.le_of_ble_eq_true rfl) rfl rfl rfl ((ct_fraction 0 (by omega) (by omega) (by omega) (by omega)).up (by omega)) (wp_lret dX3_reach_69 rfl ?_))))))))))))
        exact ⟨od2, fun _ _ => hwg, rJ (by unfold spReach; rw [if_neg (fun z => z c8), if_neg (by omega)]), ⟨li, we, od2, tsz, tpl, twi, tod, ln, rw, rs, lo, hU, hvr, hli, hwe, hlq, hlw, trivial⟩, fun j hj => hf10 j (by omega)⟩
      · refine wp_ldl (-2) (q := 33) dX3_reach_30 rfl l2 (by decide) (by decide) (wp_lret dX3_reach_33 rfl ?_)
        exact ⟨od, fun _ z => absurd z (by omega), rJ (by unfold spReach; rw [if_neg (fun z => z c8), if_pos (by omega)]), hS, fun _ _ => rfl⟩
  · refine wp_ldl (-1) (q := 14) dX3_reach_11 rfl l1 (by decide) (by decide) (wp_lret dX3_reach_14 rfl ?_)
    exact ⟨od, fun z => absurd z c8, rJ (by unfold spReach; rw [if_pos c8]), hS, fun _ _ => rfl⟩
def spCan (n sz : Nat) (pl od : List Int) (x : Int) : Int := if ¬ (0 ≤ x ∧ x < n) then -1 else if odA od (lrA sz) (plO pl sz x) = 0 then 0 else if pwA od sz = 1 then 2 else 1
theorem cs_can (d : Nat) {h : List mC} {k n sz : Nat} {ch ro pl wi : List Int} (hS : CS h k n sz ch ro pl wi) (hpl : v8 pl) (hch : chB ch) (hn : n ≤ 8) {x : Int} : Ct (d + 6) mX3_can [mR k, mI x] h (fun r9 h9 => ∃ od : List Int, ((0 ≤ x ∧ x < n) → WgOk sz ch pl wi od) ∧ r9 = some (mI (spCan n sz pl od x)) ∧ CS h9 k n sz ch ro pl wi ∧ ∀ j : Nat, (j < k ∨ k + 16 ≤ j) → h9[j]? = h[j]?) := by
  obtain ⟨li, we, od, tsz, tpl, twi, tod, ln, rw, rs, lo, hU, hvr, hli, hwe, hlq, hlw, hf0⟩ := id hS
  obtain ⟨hC, hR, hB, hT, hL, hp⟩ := id hU
  obtain ⟨c0, c1⟩ := id hC
  obtain ⟨r0, r1, r2, r3, r4, r5⟩ := id hR
  obtain ⟨b0, b1, b2, b3, b4, b5, b6, b7, b8⟩ := id hB
  obtain ⟨t0, t1, t2, t3, t4, t5, t6, t7, t8⟩ := id hT
  obtain ⟨a0, a1, a2, a3, a4, a5, a6, a7, a8, a9⟩ := id hL
  have hpo := plO_in (pl := pl) (sz := sz) (v := x)
  have hlr := lrA_in b8
  show Wp _ mX3_can 0 [mR k, mI x] [] h (0, 0) _
  refine wp_al0 (q := 1) dX3_can_0 rfl (wp_getf (q := 4) dX3_can_1 rfl f16 c0 c1 rfl (fun z => nomatch z) (wp_il1 (q := 5) dX3_can_4 rfl (wp_v1I (q := 8) dX3_can_5 rfl q14 (Nat.le_of_ble_eq_true rfl) rfl r0 r1 rfl rfl ((ct_Rhas 0 hR).up (by omega)) (wp_ifb_ne (t := 13) (q := 11) dX3_can_8 rfl rfl (fun c8 => ?_) (fun c8 => ?_)))))
  · refine wp_al0 (q := 14) dX3_can_13 rfl (wp_getf (q := 17) dX3_can_14 rfl f17 c0 c1 rfl (fun z => nomatch z) (wp_al0 (q := 18) dX3_can_17 rfl (wp_getf (q := 21) dX3_can_18 rfl f16 c0 c1 rfl (fun z => nomatch z) (wp_v1 (q := 24) dX3_can_21 rfl q34 (Nat.le_of_ble_eq_true rfl) rfl b0 b1 rfl rfl (cr_weigh (d := d + 1) hB hR hp hch (by omega) hpl) (fun r9 h9 e9 => ?_)))))
    obtain ⟨rfl, od2, hB9, hwg, hf10⟩ := e9
    have hU := hU.fBr hB9 hf10
    obtain ⟨hC, hR, hB, hT, hL, hp⟩ := id hU
    obtain ⟨c0, c1⟩ := id hC
    obtain ⟨r0, r1, r2, r3, r4, r5⟩ := id hR
    obtain ⟨b0, b1, b2, b3, b4, b5, b6, b7, b8⟩ := id hB
    obtain ⟨t0, t1, t2, t3, t4, t5, t6, t7, t8⟩ := id hT
    obtain ⟨a0, a1, a2, a3, a4, a5, a6, a7, a8, a9⟩ := id hL
    show Wp _ _ _ _ [] _ _ _
    refine wp_al0 (q := 25) dX3_can_24 rfl (wp_getf (q := 28) dX3_can_25 rfl f17 c0 c1 rfl (fun z => nomatch z) (wp_al0 (q := 29) dX3_can_28 rfl (wp_getf (q := 32) dX3_can_29 rfl f17 c0 c1 rfl (fun z => nomatch z) (wp_v0I (q := 35) dX3_can_32 rfl q65 (Nat.le_of_ble_eq_true rfl) rfl b0 b1 rfl rfl ((ct_lastRound 0 hB).up (by omega)) (wp_al0 (q := 36) dX3_can_35 rfl (wp_getf (q := 39) dX3_can_36 rfl f17 c0 c1 rfl (fun z => nomatch z) (wp_il1 (q := 40) dX3_can_39 rfl (wp_v1I (q := 43) dX3_can_40 rfl q25 (Nat.le_of_ble_eq_true rfl) rfl b0 b1 rfl rfl ((ct_placeOf 0 hB).up (by omega)) (wp_v2I (q := 46) dX3_can_43 rfl q66 (Nat.le_of_ble_eq_true rfl) rfl b0 b1 rfl rfl ((ct_oddsOf 0 hB (by omega) (by omega) (by omega) (by omega)).up (by omega)) (wp_lc0 (q := 47) dX3_can_46 rfl (wp_lcmp_ne (q1 := 48) (t := 53) (q := 51) dX3_can_47 rfl dX3_can_48 rfl rfl (fun c48 => ?_) (fun c48 => ?_))))))))))))
    · refine wp_al0 (q := 54) dX3_can_53 rfl (wp_getf (q := 57) dX3_can_54 rfl f17 c0 c1 rfl (fun z => nomatch z) (wp_v0I (q := 60) dX3_can_57 rfl q73 (Nat.le_of_ble_eq_true rfl) rfl b0 b1 rfl rfl ((ct_possibleWinners 0 hB).up (by omega)) (wp_ic (q := 61) dX3_can_60 rfl (by decide) (by decide) (wp_icmp_ne (t := 68) (q := 64) dX3_can_61 rfl rfl (fun c61 => ?_) (fun c61 => ?_)))))
      · refine wp_ic (q := 69) dX3_can_68 rfl (by decide) (by decide) (wp_iret dX3_can_69 rfl ?_)
        exact ⟨od2, fun _ => hwg, rI (by unfold spCan; rw [if_neg (fun z => z c8)]; first | rw [if_pos c48] | rw [if_neg c48, if_pos c61] | rw [if_neg c48, if_neg c61]), ⟨li, we, od2, tsz, tpl, twi, tod, ln, rw, rs, lo, hU, hvr, hli, hwe, hlq, hlw, trivial⟩, fun j hj => hf10 j (by omega)⟩
      · refine wp_ic (q := 65) dX3_can_64 rfl (by decide) (by decide) (wp_goto (q := 69) dX3_can_65 rfl (wp_iret dX3_can_69 rfl ?_))
        exact ⟨od2, fun _ => hwg, rI (by unfold spCan; rw [if_neg (fun z => z c8)]; first | rw [if_pos c48] | rw [if_neg c48, if_pos c61] | rw [if_neg c48, if_neg c61]), ⟨li, we, od2, tsz, tpl, twi, tod, ln, rw, rs, lo, hU, hvr, hli, hwe, hlq, hlw, trivial⟩, fun j hj => hf10 j (by omega)⟩
    · refine wp_ic (q := 52) dX3_can_51 rfl (by decide) (by decide) (wp_iret dX3_can_52 rfl ?_)
      exact ⟨od2, fun _ => hwg, rI (by unfold spCan; rw [if_neg (fun z => z c8)]; first | rw [if_pos c48] | rw [if_neg c48, if_pos c61] | rw [if_neg c48, if_neg c61]), ⟨li, we, od2, tsz, tpl, twi, tod, ln, rw, rs, lo, hU, hvr, hli, hwe, hlq, hlw, trivial⟩, fun j hj => hf10 j (by omega)⟩
  · refine wp_ic (q := 12) dX3_can_11 rfl (by decide) (by decide) (wp_iret dX3_can_12 rfl ?_)
    exact ⟨od, fun z => absurd z c8, rI (by unfold spCan; rw [if_pos c8]), hS, fun _ _ => rfl⟩
theorem mrA_lr {sz : Nat} (hs : (sz : Int) = 2 ∨ (sz : Int) = 4 ∨ (sz : Int) = 8) {x y : Int} (x0 : 0 ≤ x) (x1 : x < sz) (y0 : 0 ≤ y) (y1 : y < sz) : mrA x y ≤ lrA sz := by
  unfold mrA lrA
  rcases hs with e | e | e <;> rw [e] at x1 y1 ⊢ <;> (repeat' split) <;> omega
def spMeet (n sz : Nat) (pl od : List Int) (x y r : Int) (up : Prop) [Decidable up] : Int :=
  if ¬ ((0 ≤ x ∧ x < n) ∧ (0 ≤ y ∧ y < n)) then -1 else if r < 0 ∨ lrA sz < r then -2 else if x = y then -3
  else if plO pl sz x = -1 ∨ plO pl sz y = -1 then fcA 0 1 up
  else if r ≠ 0 ∧ r ≠ mrA (plO pl sz x) (plO pl sz y) then fcA 0 1 up
  else fcA (odA od (mrA (plO pl sz x) (plO pl sz y) - 1) (plO pl sz x) * odA od (mrA (plO pl sz x) (plO pl sz y) - 1) (plO pl sz y)) (pts (mrA (plO pl sz x) (plO pl sz y) - 1) * pts (mrA (plO pl sz x) (plO pl sz y) - 1)) up
theorem cs_meet (d : Nat) {h : List mC} {k n sz : Nat} {ch ro pl wi : List Int} (hS : CS h k n sz ch ro pl wi) (hpl : v8 pl) (hch : chB ch) (hn : n ≤ 8) {x y r : Int} {up : Prop} [Decidable up] : Ct (d + 6) mX3_meet [mR k, mI x, mI y, mI r, mI (bI up)] h (fun r9 h9 => ∃ od : List Int, (((0 ≤ x ∧ x < n) ∧ (0 ≤ y ∧ y < n)) → (0 ≤ r ∧ r ≤ lrA sz) → plO pl sz x ≠ -1 → plO pl sz y ≠ -1 → (r = 0 ∨ r = mrA (plO pl sz x) (plO pl sz y)) → x ≠ y → WgOk sz ch pl wi od) ∧ r9 = some (mL (spMeet n sz pl od x y r up)) ∧ CS h9 k n sz ch ro pl wi ∧ ∀ j : Nat, (j < k ∨ k + 16 ≤ j) → h9[j]? = h[j]?) := by
  obtain ⟨li, we, od, tsz, tpl, twi, tod, ln, rw, rs, lo, hU, hvr, hli, hwe, hlq, hlw, hf0⟩ := id hS
  obtain ⟨hC, hR, hB, hT, hL, hp⟩ := id hU
  obtain ⟨c0, c1⟩ := id hC
  obtain ⟨r0, r1, r2, r3, r4, r5⟩ := id hR
  obtain ⟨b0, b1, b2, b3, b4, b5, b6, b7, b8⟩ := id hB
  obtain ⟨t0, t1, t2, t3, t4, t5, t6, t7, t8⟩ := id hT
  obtain ⟨a0, a1, a2, a3, a4, a5, a6, a7, a8, a9⟩ := id hL
  have hpx := plO_in (pl := pl) (sz := sz) (v := x)
  have hpy := plO_in (pl := pl) (sz := sz) (v := y)
  have hmr := mrA_in (plO pl sz x) (plO pl sz y)
  have hlr := lrA_in b8
  show Wp _ mX3_meet 0 [mR k, mI x, mI y, mI r, mI (bI up), mU, mU, mU, mU, mU] [] h (0, 0) _
  refine wp_al0 (q := 1) dX3_meet_0 rfl (wp_getf (q := 4) dX3_meet_1 rfl f16 c0 c1 rfl (fun z => nomatch z) (wp_il1 (q := 5) dX3_meet_4 rfl (wp_v1I (q := 8) dX3_meet_5 rfl q14 (Nat.le_of_ble_eq_true rfl) rfl r0 r1 rfl rfl ((ct_Rhas 0 hR).up (by omega)) (wp_ifb_eq (t := 22) (q := 11) dX3_meet_8 rfl rfl (fun c8 => ?_) (fun c8 => ?_)))))
  · refine wp_ldl (-1) (q := 25) dX3_meet_22 rfl l1 (by decide) (by decide) (wp_lret dX3_meet_25 rfl ?_)
    refine ⟨od, fun z1 z2 z3 z4 z5 z6 => absurd z1 (by omega), rJ ?_, hS, fun _ _ => rfl⟩
    unfold spMeet
    (repeat' split) <;> first | rfl | omega
  · refine wp_al0 (q := 12) dX3_meet_11 rfl (wp_getf (q := 15) dX3_meet_12 rfl f16 c0 c1 rfl (fun z => nomatch z) (wp_il2 (q := 16) dX3_meet_15 rfl (wp_v1I (q := 19) dX3_meet_16 rfl q14 (Nat.le_of_ble_eq_true rfl) rfl r0 r1 rfl rfl ((ct_Rhas 0 hR).up (by omega)) (wp_ifb_ne (t := 26) (q := 22) dX3_meet_19 rfl rfl (fun c19 => ?_) (fun c19 => ?_)))))
    · refine wp_il3 (q := 27) dX3_meet_26 rfl (wp_if_lt (t := 41) (q := 30) dX3_meet_27 rfl rfl (fun c27 => ?_) (fun c27 => ?_))
      · refine wp_ldl (-2) (q := 44) dX3_meet_41 rfl l2 (by decide) (by decide) (wp_lret dX3_meet_44 rfl ?_)
        refine ⟨od, fun z1 z2 z3 z4 z5 z6 => absurd z2 (by omega), rJ ?_, hS, fun _ _ => rfl⟩
        unfold spMeet
        (repeat' split) <;> first | rfl | omega
      · refine wp_il3 (q := 31) dX3_meet_30 rfl (wp_al0 (q := 32) dX3_meet_31 rfl (wp_getf (q := 35) dX3_meet_32 rfl f17 c0 c1 rfl (fun z => nomatch z) (wp_v0I (q := 38) dX3_meet_35 rfl q65 (Nat.le_of_ble_eq_true rfl) rfl b0 b1 rfl rfl ((ct_lastRound 0 hB).up (by omega)) (wp_icmp_le (t := 45) (q := 41) dX3_meet_38 rfl rfl (fun c38 => ?_) (fun c38 => ?_)))))
        · refine wp_il1 (q := 46) dX3_meet_45 rfl (wp_il2 (q := 47) dX3_meet_46 rfl (wp_icmp_ne (t := 54) (q := 50) dX3_meet_47 rfl rfl (fun c47 => ?_) (fun c47 => ?_)))
          · refine wp_al0 (q := 55) dX3_meet_54 rfl (wp_getf (q := 58) dX3_meet_55 rfl f17 c0 c1 rfl (fun z => nomatch z) (wp_il1 (q := 59) dX3_meet_58 rfl (wp_v1I (q := 62) dX3_meet_59 rfl q25 (Nat.le_of_ble_eq_true rfl) rfl b0 b1 rfl rfl ((ct_placeOf 0 hB).up (by omega)) (wp_is5 (q := 64) dX3_meet_62 rfl rfl (wp_al0 (q := 65) dX3_meet_64 rfl (wp_getf (q := 68) dX3_meet_65 rfl f17 c0 c1 rfl (fun z => nomatch z) (wp_il2 (q := 69) dX3_meet_68 rfl (wp_v1I (q := 72) dX3_meet_69 rfl q25 (Nat.le_of_ble_eq_true rfl) rfl b0 b1 rfl rfl ((ct_placeOf 0 hB).up (by omega)) (wp_is6 (q := 74) dX3_meet_72 rfl rfl (wp_il5 (q := 76) dX3_meet_74 rfl (wp_ic (q := 77) dX3_meet_76 rfl (by decide) (by decide) (wp_icmp_eq (t := 86) (q := 80) dX3_meet_77 rfl rfl (fun c77 => ?_) (fun c77 => ?_)))))))))))))
            · refine wp_lc0 (q := 87) dX3_meet_86 rfl (wp_lc1 (q := 88) dX3_meet_87 rfl (wp_il4 (q := 90) dX3_meet_88 rfl (wp_s3I (q := 93) dX3_meet_90 rfl q68 (Nat.le_of_ble_eq_true rfl) rfl rfl rfl ((ct_fraction 0 (by omega) (by omega) (by omega) (by omega)).up (by omega)) (wp_lret dX3_meet_93 rfl ?_))))
              refine ⟨od, fun z1 z2 z3 z4 z5 z6 => by omega, rJ ?_, hS, fun _ _ => rfl⟩
              unfold spMeet
              (repeat' split) <;> first | rfl | omega
            · refine wp_il6 (q := 82) dX3_meet_80 rfl (wp_ic (q := 83) dX3_meet_82 rfl (by decide) (by decide) (wp_icmp_ne (t := 94) (q := 86) dX3_meet_83 rfl rfl (fun c83 => ?_) (fun c83 => ?_)))
              · refine wp_il5 (q := 96) dX3_meet_94 rfl (wp_il6 (q := 98) dX3_meet_96 rfl (wp_s2I (q := 101) dX3_meet_98 rfl q71 (Nat.le_of_ble_eq_true rfl) rfl rfl rfl ((ct_meetingRound 0 (by omega) (by omega) (by omega) (by omega)).up (by omega)) (wp_is7 (q := 103) dX3_meet_101 rfl rfl (wp_il3 (q := 104) dX3_meet_103 rfl (wp_if_eq (t := 121) (q := 107) dX3_meet_104 rfl rfl (fun c104 => ?_) (fun c104 => ?_))))))
                · refine wp_al0 (q := 122) dX3_meet_121 rfl (wp_getf (q := 125) dX3_meet_122 rfl f17 c0 c1 rfl (fun z => nomatch z) (wp_al0 (q := 126) dX3_meet_125 rfl (wp_getf (q := 129) dX3_meet_126 rfl f16 c0 c1 rfl (fun z => nomatch z) (wp_v1 (q := 132) dX3_meet_129 rfl q34 (Nat.le_of_ble_eq_true rfl) rfl b0 b1 rfl rfl (cr_weigh (d := d + 1) hB hR hp hch (by omega) hpl) (fun r9 h9 e9 => ?_)))))
                  obtain ⟨rfl, od2, hB9, hwg, hf10⟩ := e9
                  have hU := hU.fBr hB9 hf10
                  obtain ⟨hC, hR, hB, hT, hL, hp⟩ := id hU
                  obtain ⟨c0, c1⟩ := id hC
                  obtain ⟨r0, r1, r2, r3, r4, r5⟩ := id hR
                  obtain ⟨b0, b1, b2, b3, b4, b5, b6, b7, b8⟩ := id hB
                  obtain ⟨t0, t1, t2, t3, t4, t5, t6, t7, t8⟩ := id hT
                  obtain ⟨a0, a1, a2, a3, a4, a5, a6, a7, a8, a9⟩ := id hL
                  show Wp _ _ _ _ [] _ _ _
                  have hml := mrA_lr b8 (x := plO pl sz x) (y := plO pl sz y) (by omega) (by omega) (by omega) (by omega)
                  have hi := hwg.in b8 hch (r := mrA (plO pl sz x) (plO pl sz y) - 1) (x := plO pl sz x) (by omega) (by omega) (by omega)
                  have hj := hwg.in b8 hch (r := mrA (plO pl sz x) (plO pl sz y) - 1) (x := plO pl sz y) (by omega) (by omega) (by omega)
                  have hi2 := bdA_le (r := (mrA (plO pl sz x) (plO pl sz y) - 1).toNat) (by omega)
                  have hm1 := mulB (X := 884736) (Y := 884736) ⟨hi.1, by omega⟩ ⟨hj.1, by omega⟩
                  have hq := pts_in (r := mrA (plO pl sz x) (plO pl sz y) - 1) (by omega) (by omega)
                  have hq1 := ptsR (r := mrA (plO pl sz x) (plO pl sz y) - 1) (by omega) (by omega)
                  have hm2 := mulB hq hq
                  have hm3 : 0 < pts (mrA (plO pl sz x) (plO pl sz y) - 1) * pts (mrA (plO pl sz x) (plO pl sz y) - 1) := Int.mul_pos (by omega) (by omega)
                  refine wp_al0 (q := 133) dX3_meet_132 rfl (wp_getf (q := 136) dX3_meet_133 rfl f17 c0 c1 rfl (fun z => nomatch z) (wp_il7 (q := 138) dX3_meet_136 rfl (wp_ic (q := 139) dX3_meet_138 rfl (by decide) (by decide) (wp_isub (q := 140) dX3_meet_139 rfl (by omega) (by omega) (wp_il5 (q := 142) dX3_meet_140 rfl (wp_v2I (q := 145) dX3_meet_142 rfl q66 (Nat.le_of_ble_eq_true rfl) rfl b0 b1 rfl rfl ((ct_oddsOf 0 hB (by omega) (by omega) (by omega) (by omega)).up (by omega)) (wp_al0 (q := 146) dX3_meet_145 rfl (wp_getf (q := 149) dX3_meet_146 rfl f17 c0 c1 rfl (fun z => nomatch z) (wp_il7 (q := 151) dX3_meet_149 rfl (wp_ic (q := 152) dX3_meet_151 rfl (by decide) (by decide) (wp_isub (q := 153) dX3_meet_152 rfl (by omega) (by omega) (wp_il6 (q := 155) dX3_meet_153 rfl (wp_v2I (q := 158) dX3_meet_155 rfl q66 (Nat.le_of_ble_eq_true rfl) rfl b0 b1 rfl rfl ((ct_oddsOf 0 hB (by omega) (by omega) (by omega) (by omega)).up (by omega)) ?_)))))))))))))
                  refine wp_lmul (q := 159) dX3_meet_158 rfl (by omega) (by omega) (wp_ls8 (q := 161) dX3_meet_159 rfl rfl (wp_ll8 (q := 163) dX3_meet_161 rfl (wp_il7 (q := 165) dX3_meet_163 rfl (wp_ic (q := 166) dX3_meet_165 rfl (by decide) (by decide) (wp_isub (q := 167) dX3_meet_166 rfl (by omega) (by omega) (wp_s1I (q := 170) dX3_meet_167 rfl q67 (Nat.le_of_ble_eq_true rfl) rfl rfl rfl ((ct_partsOf 0 hp).up (by omega)) (wp_il7 (q := 172) dX3_meet_170 rfl (wp_ic (q := 173) dX3_meet_172 rfl (by decide) (by decide) (wp_isub (q := 174) dX3_meet_173 rfl (by omega) (by omega) (wp_s1I (q := 177) dX3_meet_174 rfl q67 (Nat.le_of_ble_eq_true rfl) rfl rfl rfl ((ct_partsOf 0 hp).up (by omega)) (wp_lmul (q := 178) dX3_meet_177 rfl (by omega) (by omega) (wp_il4 (q := 180) dX3_meet_178 rfl (wp_s3I (q := 183) dX3_meet_180 rfl q68 (Nat.le_of_ble_eq_true rfl) rfl rfl rfl ((ct_fraction 0 (by omega) (by omega) (by omega) (by omega)).up (by omega)) ?_)))))))))))))
                  refine wp_lret dX3_meet_183 rfl ?_
                  refine ⟨od2, fun _ _ _ _ _ _ => hwg, rJ ?_, ⟨li, we, od2, tsz, tpl, twi, tod, ln, rw, rs, lo, hU, hvr, hli, hwe, hlq, hlw, trivial⟩, fun j hj => hf10 j (by omega)⟩
                  unfold spMeet
                  rw [if_neg (by omega), if_neg (by omega), if_neg (by omega), if_neg (by omega), if_neg (by omega)]
                · refine wp_il3 (q := 108) dX3_meet_107 rfl (wp_il7 (q := 110) dX3_meet_108 rfl (wp_icmp_eq (t := 121) (q := 113) dX3_meet_110 rfl rfl (fun c110 => ?_) (fun c110 => ?_)))
                  · refine wp_al0 (q := 122) dX3_meet_121 rfl (wp_getf (q := 125) dX3_meet_122 rfl f17 c0 c1 rfl (fun z => nomatch z) (wp_al0 (q := 126) dX3_meet_125 rfl (wp_getf (q := 129) dX3_meet_126 rfl f16 c0 c1 rfl (fun z => nomatch z) (wp_v1 (q := 132) dX3_meet_129 rfl q34 (Nat.le_of_ble_eq_true rfl) rfl b0 b1 rfl rfl (cr_weigh (d := d + 1) hB hR hp hch (by omega) hpl) (fun r9 h9 e9 => ?_)))))
                    obtain ⟨rfl, od2, hB9, hwg, hf10⟩ := e9
                    have hU := hU.fBr hB9 hf10
                    obtain ⟨hC, hR, hB, hT, hL, hp⟩ := id hU
                    obtain ⟨c0, c1⟩ := id hC
                    obtain ⟨r0, r1, r2, r3, r4, r5⟩ := id hR
                    obtain ⟨b0, b1, b2, b3, b4, b5, b6, b7, b8⟩ := id hB
                    obtain ⟨t0, t1, t2, t3, t4, t5, t6, t7, t8⟩ := id hT
                    obtain ⟨a0, a1, a2, a3, a4, a5, a6, a7, a8, a9⟩ := id hL
                    show Wp _ _ _ _ [] _ _ _
                    have hml := mrA_lr b8 (x := plO pl sz x) (y := plO pl sz y) (by omega) (by omega) (by omega) (by omega)
                    have hi := hwg.in b8 hch (r := mrA (plO pl sz x) (plO pl sz y) - 1) (x := plO pl sz x) (by omega) (by omega) (by omega)
                    have hj := hwg.in b8 hch (r := mrA (plO pl sz x) (plO pl sz y) - 1) (x := plO pl sz y) (by omega) (by omega) (by omega)
                    have hi2 := bdA_le (r := (mrA (plO pl sz x) (plO pl sz y) - 1).toNat) (by omega)
                    have hm1 := mulB (X := 884736) (Y := 884736) ⟨hi.1, by omega⟩ ⟨hj.1, by omega⟩
                    have hq := pts_in (r := mrA (plO pl sz x) (plO pl sz y) - 1) (by omega) (by omega)
                    have hq1 := ptsR (r := mrA (plO pl sz x) (plO pl sz y) - 1) (by omega) (by omega)
                    have hm2 := mulB hq hq
                    have hm3 : 0 < pts (mrA (plO pl sz x) (plO pl sz y) - 1) * pts (mrA (plO pl sz x) (plO pl sz y) - 1) := Int.mul_pos (by omega) (by omega)
                    refine wp_al0 (q := 133) dX3_meet_132 rfl (wp_getf (q := 136) dX3_meet_133 rfl f17 c0 c1 rfl (fun z => nomatch z) (wp_il7 (q := 138) dX3_meet_136 rfl (wp_ic (q := 139) dX3_meet_138 rfl (by decide) (by decide) (wp_isub (q := 140) dX3_meet_139 rfl (by omega) (by omega) (wp_il5 (q := 142) dX3_meet_140 rfl (wp_v2I (q := 145) dX3_meet_142 rfl q66 (Nat.le_of_ble_eq_true rfl) rfl b0 b1 rfl rfl ((ct_oddsOf 0 hB (by omega) (by omega) (by omega) (by omega)).up (by omega)) (wp_al0 (q := 146) dX3_meet_145 rfl (wp_getf (q := 149) dX3_meet_146 rfl f17 c0 c1 rfl (fun z => nomatch z) (wp_il7 (q := 151) dX3_meet_149 rfl (wp_ic (q := 152) dX3_meet_151 rfl (by decide) (by decide) (wp_isub (q := 153) dX3_meet_152 rfl (by omega) (by omega) (wp_il6 (q := 155) dX3_meet_153 rfl (wp_v2I (q := 158) dX3_meet_155 rfl q66 (Nat.le_of_ble_eq_true rfl) rfl b0 b1 rfl rfl ((ct_oddsOf 0 hB (by omega) (by omega) (by omega) (by omega)).up (by omega)) ?_)))))))))))))
                    refine wp_lmul (q := 159) dX3_meet_158 rfl (by omega) (by omega) (wp_ls8 (q := 161) dX3_meet_159 rfl rfl (wp_ll8 (q := 163) dX3_meet_161 rfl (wp_il7 (q := 165) dX3_meet_163 rfl (wp_ic (q := 166) dX3_meet_165 rfl (by decide) (by decide) (wp_isub (q := 167) dX3_meet_166 rfl (by omega) (by omega) (wp_s1I (q := 170) dX3_meet_167 rfl q67 (Nat.le_of_ble_eq_true rfl) rfl rfl rfl ((ct_partsOf 0 hp).up (by omega)) (wp_il7 (q := 172) dX3_meet_170 rfl (wp_ic (q := 173) dX3_meet_172 rfl (by decide) (by decide) (wp_isub (q := 174) dX3_meet_173 rfl (by omega) (by omega) (wp_s1I (q := 177) dX3_meet_174 rfl q67 (Nat.le_of_ble_eq_true rfl) rfl rfl rfl ((ct_partsOf 0 hp).up (by omega)) (wp_lmul (q := 178) dX3_meet_177 rfl (by omega) (by omega) (wp_il4 (q := 180) dX3_meet_178 rfl (wp_s3I (q := 183) dX3_meet_180 rfl q68 (Nat.le_of_ble_eq_true rfl) rfl rfl rfl ((ct_fraction 0 (by omega) (by omega) (by omega) (by omega)).up (by omega)) ?_)))))))))))))
                    refine wp_lret dX3_meet_183 rfl ?_
                    refine ⟨od2, fun _ _ _ _ _ _ => hwg, rJ ?_, ⟨li, we, od2, tsz, tpl, twi, tod, ln, rw, rs, lo, hU, hvr, hli, hwe, hlq, hlw, trivial⟩, fun j hj => hf10 j (by omega)⟩
                    unfold spMeet
                    rw [if_neg (by omega), if_neg (by omega), if_neg (by omega), if_neg (by omega), if_neg (by omega)]
                  · refine wp_lc0 (q := 114) dX3_meet_113 rfl (wp_lc1 (q := 115) dX3_meet_114 rfl (wp_il4 (q := 117) dX3_meet_115 rfl (wp_s3I (q := 120) dX3_meet_117 rfl q68 (Nat.le_of_ble_eq_true rfl) rfl rfl rfl ((ct_fraction 0 (by omega) (by omega) (by omega) (by omega)).up (by omega)) (wp_lret dX3_meet_120 rfl ?_))))
                    refine ⟨od, fun z1 z2 z3 z4 z5 z6 => by omega, rJ ?_, hS, fun _ _ => rfl⟩
                    unfold spMeet
                    (repeat' split) <;> first | rfl | omega
              · refine wp_lc0 (q := 87) dX3_meet_86 rfl (wp_lc1 (q := 88) dX3_meet_87 rfl (wp_il4 (q := 90) dX3_meet_88 rfl (wp_s3I (q := 93) dX3_meet_90 rfl q68 (Nat.le_of_ble_eq_true rfl) rfl rfl rfl ((ct_fraction 0 (by omega) (by omega) (by omega) (by omega)).up (by omega)) (wp_lret dX3_meet_93 rfl ?_))))
                refine ⟨od, fun z1 z2 z3 z4 z5 z6 => by omega, rJ ?_, hS, fun _ _ => rfl⟩
                unfold spMeet
                (repeat' split) <;> first | rfl | omega
          · refine wp_ldl (-3) (q := 53) dX3_meet_50 rfl l3 (by decide) (by decide) (wp_lret dX3_meet_53 rfl ?_)
            refine ⟨od, fun z1 z2 z3 z4 z5 z6 => absurd c47 z6, rJ ?_, hS, fun _ _ => rfl⟩
            unfold spMeet
            (repeat' split) <;> first | rfl | omega
        · refine wp_ldl (-2) (q := 44) dX3_meet_41 rfl l2 (by decide) (by decide) (wp_lret dX3_meet_44 rfl ?_)
          refine ⟨od, fun z1 z2 z3 z4 z5 z6 => absurd z2 (by omega), rJ ?_, hS, fun _ _ => rfl⟩
          unfold spMeet
          (repeat' split) <;> first | rfl | omega
    · refine wp_ldl (-1) (q := 25) dX3_meet_22 rfl l1 (by decide) (by decide) (wp_lret dX3_meet_25 rfl ?_)
      refine ⟨od, fun z1 z2 z3 z4 z5 z6 => absurd z1 (by omega), rJ ?_, hS, fun _ _ => rfl⟩
      unfold spMeet
      (repeat' split) <;> first | rfl | omega
