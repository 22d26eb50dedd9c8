/-! CupDraws: at, open, count, the list of draws (rows laid by wip/whole) -/
def spAt (sz : Nat) (pl : List Int) (x : Int) : Int := if 0 ≤ x ∧ x < sz then tld (rd8 pl x) else -1
theorem cs_at (d : Nat) {h : List mC} {k n sz : Nat} {ch ro pl wi : List Int} (hS : CS h k n sz ch ro pl wi) {x : Int} : Rt (d + 1) mX3_at [mR k, mI x] h (some (mI (spAt sz pl x))) h := by
  obtain ⟨li, we, od, tsz, tpl, twi, tod, ln, rw, rs, lo, hU, hvr, hli, hwe, hlr, hlw, hf0⟩ := id hS
  obtain ⟨hC, hR, hB, hT, hL, hp⟩ := id hU
  obtain ⟨c0, c1⟩ := id hC
  obtain ⟨r0, r1, r2, r3, r4, r5⟩ := id hR
  obtain ⟨b0, b1, b2, b3, b4, b5, b6, b7, b8⟩ := id hB
  obtain ⟨t0, t1, t2, t3, t4, t5, t6, t7, t8⟩ := id hT
  obtain ⟨a0, a1, a2, a3, a4, a5, a6, a7, a8, a9⟩ := id hL
  show Wp _ mX3_at 0 [mR k, mI x] [] h (0, 0) _
  refine wp_al0 (q := 1) dX3_at_0 rfl (wp_getf (q := 4) dX3_at_1 rfl f17 c0 c1 rfl (fun z => nomatch z) (wp_il1 (q := 5) dX3_at_4 rfl (wp_v1I (q := 8) dX3_at_5 rfl q24 (Nat.le_of_ble_eq_true rfl) rfl b0 b1 rfl rfl (ct_hasPlace d hB) (wp_ifb_eq (t := 25) (q := 11) dX3_at_8 rfl rfl (fun c8 => ?_) (fun c8 => ?_)))))
  · refine wp_ic (q := 26) dX3_at_25 rfl (by decide) (by decide) (wp_iret dX3_at_26 rfl ?_)
    exact ⟨rI (by unfold spAt; first | rw [if_pos c8] | rw [if_neg c8]), rfl⟩
  · refine wp_al0 (q := 12) dX3_at_11 rfl (wp_getf (q := 15) dX3_at_12 rfl f17 c0 c1 rfl (fun z => nomatch z) (wp_il1 (q := 16) dX3_at_15 rfl (wp_v1I (q := 19) dX3_at_16 rfl q27 (Nat.le_of_ble_eq_true rfl) rfl b0 b1 rfl rfl (ct_playerAt d hB) (wp_s1I (q := 22) dX3_at_19 rfl q30 (Nat.le_of_ble_eq_true rfl) rfl rfl rfl (ct_told d) (wp_goto (q := 26) dX3_at_22 rfl (wp_iret dX3_at_26 rfl ?_))))))
    exact ⟨rI (by unfold spAt; first | rw [if_pos c8] | rw [if_neg c8]), rfl⟩
def dcA (sz : Nat) (wi : List Int) : Int := sumN (fun i => bI (rd8 wi i ≠ 8)) ((sz : Int) - 1).toNat
def spOpen (sz : Nat) (wi : List Int) (x : Int) : Int := if ¬ (0 ≤ x ∧ x < (sz : Int) - 1) then -1 else if rd8 wi x = 8 then -3 else dcA sz (upW sz 3 x wi)
theorem cs_open (d : Nat) {h : List mC} {k n sz : Nat} {ch ro pl wi : List Int} (hS : CS h k n sz ch ro pl wi) {x : Int} : Ct (d + 2) mX3_open [mR k, mI x] h (fun r9 h9 => r9 = some (mI (spOpen sz wi x)) ∧ (if (0 ≤ x ∧ x < (sz : Int) - 1) ∧ rd8 wi x ≠ 8 then CS h9 k n sz ch ro pl (upW sz 3 x wi) else CS h9 k n sz ch ro pl wi) ∧ ∀ j : Nat, (j < k ∨ k + 16 ≤ j) → h9[j]? = h[j]?) := by
  obtain ⟨li, we, od, tsz, tpl, twi, tod, ln, rw, rs, lo, hU, hvr, hli, hwe, hlr, hlw, hf0⟩ := id hS
  obtain ⟨hC, hR, hB, hT, hL, hp⟩ := id hU
  obtain ⟨c0, c1⟩ := id hC
  obtain ⟨r0, r1, r2, r3, r4, r5⟩ := id hR
  obtain ⟨b0, b1, b2, b3, b4, b5, b6, b7, b8⟩ := id hB
  obtain ⟨t0, t1, t2, t3, t4, t5, t6, t7, t8⟩ := id hT
  obtain ⟨a0, a1, a2, a3, a4, a5, a6, a7, a8, a9⟩ := id hL
  show Wp _ mX3_open 0 [mR k, mI x] [] h (0, 0) _
  refine wp_al0 (q := 1) dX3_open_0 rfl (wp_getf (q := 4) dX3_open_1 rfl f17 c0 c1 rfl (fun z => nomatch z) (wp_il1 (q := 5) dX3_open_4 rfl (wp_v1I (q := 8) dX3_open_5 rfl q33 (Nat.le_of_ble_eq_true rfl) rfl b0 b1 rfl rfl (ct_hasMatch (d + 1) hB) (wp_ifb_ne (t := 13) (q := 11) dX3_open_8 rfl rfl (fun c8 => ?_) (fun c8 => ?_)))))
  · refine wp_al0 (q := 14) dX3_open_13 rfl (wp_getf (q := 17) dX3_open_14 rfl f17 c0 c1 rfl (fun z => nomatch z) (wp_il1 (q := 18) dX3_open_17 rfl (wp_v1I (q := 21) dX3_open_18 rfl q56 (Nat.le_of_ble_eq_true rfl) rfl b0 b1 rfl rfl (ct_winnerOf (d + 1) hB) (wp_bi (q := 23) dX3_open_21 rfl (by decide) (by decide) (wp_icmp_ne (t := 29) (q := 26) dX3_open_23 rfl rfl (fun c23 => ?_) (fun c23 => ?_))))))
    · refine wp_al0 (q := 30) dX3_open_29 rfl (wp_getf (q := 33) dX3_open_30 rfl f17 c0 c1 rfl (fun z => nomatch z) (wp_il1 (q := 34) dX3_open_33 rfl (wp_v1 (q := 37) dX3_open_34 rfl q57 (Nat.le_of_ble_eq_true rfl) rfl b0 b1 rfl rfl (cr_openUpwards hB (by omega) (by omega)) (fun r9 h9 e9 => ?_))))
      obtain ⟨rfl, hB9, hf10⟩ := e9
      have hU := hU.fBr hB9 hf10
      obtain ⟨hC, hR, hB, hT, hL, hp⟩ := id hU
      obtain ⟨c0, c1⟩ := id hC
      obtain ⟨r0, r1, r2, r3, r4, r5⟩ := id hR
      obtain ⟨b0, b1, b2, b3, b4, b5, b6, b7, b8⟩ := id hB
      obtain ⟨t0, t1, t2, t3, t4, t5, t6, t7, t8⟩ := id hT
      obtain ⟨a0, a1, a2, a3, a4, a5, a6, a7, a8, a9⟩ := id hL
      show Wp _ _ _ _ [] _ _ _
      refine wp_al0 (q := 38) dX3_open_37 rfl (wp_getf (q := 41) dX3_open_38 rfl f17 c0 c1 rfl (fun z => nomatch z) (wp_v0I (q := 44) dX3_open_41 rfl q54 (Nat.le_of_ble_eq_true rfl) rfl b0 b1 rfl rfl (ct_decidedMatches d hB) (wp_iret dX3_open_44 rfl ?_)))
      refine ⟨rI ?_, ?_, fun j hj => hf10 j (by omega)⟩
      · unfold spOpen
        rw [if_neg (by omega), if_neg (by omega)]
        rfl
      · rw [if_pos (by omega)]
        exact ⟨li, we, od, tsz, tpl, twi, tod, ln, rw, rs, lo, hU, hvr, hli, hwe, hlr, hlw, trivial⟩
    · refine wp_bi (q := 28) dX3_open_26 rfl (by decide) (by decide) (wp_iret dX3_open_28 rfl ?_)
      refine ⟨rI ?_, by rw [if_neg (by omega)]; exact hS, fun _ _ => rfl⟩
      unfold spOpen
      (repeat' split) <;> omega
  · refine wp_ic (q := 12) dX3_open_11 rfl (by decide) (by decide) (wp_iret dX3_open_12 rfl ?_)
    refine ⟨rI ?_, by rw [if_neg (by omega)]; exact hS, fun _ _ => rfl⟩
    unfold spOpen
    (repeat' split) <;> omega
def spCount (n sz : Nat) (ro pl wi : List Int) (x : Int) : Int := if x = 0 then n else if x = 1 then sz else if x = 2 then cnt8 pl 0 8 else if x = 3 then dcA sz wi else if x = 4 then sumN (paR ro n) n else -2
theorem cs_count (d : Nat) {h : List mC} {k n sz : Nat} {ch ro pl wi : List Int} (hS : CS h k n sz ch ro pl wi) {x : Int} (hn : n ≤ 8) : Rt (d + 2) mX3_count [mR k, mI x] h (some (mI (spCount n sz ro pl wi x))) h := by
  obtain ⟨li, we, od, tsz, tpl, twi, tod, ln, rw, rs, lo, hU, hvr, hli, hwe, hlr, hlw, hf0⟩ := id hS
  obtain ⟨hC, hR, hB, hT, hL, hp⟩ := id hU
  obtain ⟨c0, c1⟩ := id hC
  obtain ⟨r0, r1, r2, r3, r4, r5⟩ := id hR
  obtain ⟨b0, b1, b2, b3, b4, b5, b6, b7, b8⟩ := id hB
  obtain ⟨t0, t1, t2, t3, t4, t5, t6, t7, t8⟩ := id hT
  obtain ⟨a0, a1, a2, a3, a4, a5, a6, a7, a8, a9⟩ := id hL
  show Wp _ mX3_count 0 [mR k, mI x] [] h (0, 0) _
  refine wp_il1 (q := 1) dX3_count_0 rfl ?_
  rcases (show x = 0 ∨ x = 1 ∨ x = 2 ∨ x = 3 ∨ x = 4 ∨ (x < 0 ∨ 4 < x) by omega) with rfl | rfl | rfl | rfl | rfl | hts
  · refine wp_tsi (off := 35) (t := 36) dX3_count_1 (by decide) (by decide) (by decide) rfl ?_
    refine wp_al0 (q := 37) dX3_count_36 rfl (wp_getf (q := 40) dX3_count_37 rfl f16 c0 c1 rfl (fun z => nomatch z) (wp_getf (q := 43) dX3_count_40 rfl f1 r0 r1 rfl (fun z => nomatch z) (wp_iret dX3_count_43 rfl ?_)))
    exact ⟨rfl, rfl⟩
  · refine wp_tsi (off := 43) (t := 44) dX3_count_1 (by decide) (by decide) (by decide) rfl ?_
    refine wp_al0 (q := 45) dX3_count_44 rfl (wp_getf (q := 48) dX3_count_45 rfl f17 c0 c1 rfl (fun z => nomatch z) (wp_getf (q := 51) dX3_count_48 rfl f6 b0 b1 rfl (fun z => nomatch z) (wp_iret dX3_count_51 rfl ?_)))
    exact ⟨rfl, rfl⟩
  · refine wp_tsi (off := 51) (t := 52) dX3_count_1 (by decide) (by decide) (by decide) rfl ?_
    refine wp_al0 (q := 53) dX3_count_52 rfl (wp_getf (q := 56) dX3_count_53 rfl f17 c0 c1 rfl (fun z => nomatch z) (wp_ic (q := 57) dX3_count_56 rfl (by decide) (by decide) (wp_bi (q := 59) dX3_count_57 rfl (by decide) (by decide) (wp_v2I (q := 62) dX3_count_59 rfl q114 (Nat.le_of_ble_eq_true rfl) rfl b0 b1 rfl rfl (ct_playersIn d hB (by omega) (by omega) (by omega)) (wp_iret dX3_count_62 rfl ?_)))))
    exact ⟨rfl, rfl⟩
  · refine wp_tsi (off := 62) (t := 63) dX3_count_1 (by decide) (by decide) (by decide) rfl ?_
    refine wp_al0 (q := 64) dX3_count_63 rfl (wp_getf (q := 67) dX3_count_64 rfl f17 c0 c1 rfl (fun z => nomatch z) (wp_v0I (q := 70) dX3_count_67 rfl q54 (Nat.le_of_ble_eq_true rfl) rfl b0 b1 rfl rfl (ct_decidedMatches d hB) (wp_iret dX3_count_70 rfl ?_)))
    exact ⟨rfl, rfl⟩
  · refine wp_tsi (off := 70) (t := 71) dX3_count_1 (by decide) (by decide) (by decide) rfl ?_
    refine wp_al0 (q := 72) dX3_count_71 rfl (wp_getf (q := 75) dX3_count_72 rfl f16 c0 c1 rfl (fun z => nomatch z) (wp_v0I (q := 78) dX3_count_75 rfl q115 (Nat.le_of_ble_eq_true rfl) rfl r0 r1 rfl rfl (ct_pairsApart d hR (by omega) (by omega)) (wp_iret dX3_count_78 rfl ?_)))
    exact ⟨rfl, rfl⟩
  · refine wp_tso (t := 79) dX3_count_1 hts rfl ?_
    refine wp_bi (q := 81) dX3_count_79 rfl (by decide) (by decide) (wp_iret dX3_count_81 rfl ?_)
    exact ⟨rI (by unfold spCount; rw [if_neg (by omega), if_neg (by omega), if_neg (by omega), if_neg (by omega), if_neg (by omega)]), rfl⟩
theorem take_len_le {α : Type} (l : List α) : ((l.take 315).length : Int) ≤ 315 := by rw [List.length_take]; omega
/-- the list is there -/
theorem cs_makeList (d : Nat) {f : Int → Int → Prop} {h : List mC} {k n sz : Nat} {ch ro pl wi : List Int} (hS : CSx f h k n sz ch ro pl wi) (hn : n ≤ 8) : Ct (d + 12) mX3_makeList [mR k] h (fun r9 h9 => r9 = none ∧ CSx (fun li _ => li = 1) h9 k n sz ch ro pl wi ∧ ∀ j : Nat, (j < k ∨ k + 16 ≤ j) → h9[j]? = h[j]?) := by
  obtain ⟨li, we, od, tsz, tpl, twi, tod, ln, rw, rs, lo, hU, hvr, hli, hwe, hlr, hlw, hf0⟩ := id hS
  obtain ⟨hC, hR, hB, hT, hL, hp⟩ := id hU
  obtain ⟨c0, c1⟩ := id hC
  obtain ⟨r0, r1, r2, r3, r4, r5⟩ := id hR
  obtain ⟨b0, b1, b2, b3, b4, b5, b6, b7, b8⟩ := id hB
  obtain ⟨t0, t1, t2, t3, t4, t5, t6, t7, t8⟩ := id hT
  obtain ⟨a0, a1, a2, a3, a4, a5, a6, a7, a8, a9⟩ := id hL
  show Wp _ mX3_makeList 0 [mR k] [] h (0, 0) _
  refine wp_al0 (q := 1) dX3_makeList_0 rfl (wp_getf (q := 4) dX3_makeList_1 rfl f20 c0 c1 rfl (fun z => nomatch z) (wp_if_ne (t := 35) (q := 7) dX3_makeList_4 rfl rfl (fun c4 => ?_) (fun c4 => ?_)))
  · refine wp_vret dX3_makeList_35 rfl ?_
    first
      | (have hl1 : li = 1 := by omega
         exact ⟨rfl, ⟨li, we, od, tsz, tpl, twi, tod, ln, rw, rs, lo, hU, hvr, hli, hwe, hlr, hlw, hl1⟩, fun _ _ => rfl⟩)
      | (have hU2 := hU1.fCu (li' := 1) (we' := 0)
         exact ⟨rfl, ⟨1, 0, od, tsz, tpl, twi, tod, _, rw2, rs2, lo, hU2, hv4, Or.inr rfl, Or.inl rfl, fun _ => ⟨rfl, hR2⟩, fun _ z => absurd z (by decide), rfl⟩, fun j hj => by rw [fr_set (by omega), fr_set (by omega)]; exact hf10 j (by omega)⟩)
  · refine wp_al0 (q := 8) dX3_makeList_7 rfl (wp_getf (q := 11) dX3_makeList_8 rfl f19 c0 c1 rfl (fun z => nomatch z) (wp_al0 (q := 12) dX3_makeList_11 rfl (wp_getf (q := 15) dX3_makeList_12 rfl f16 c0 c1 rfl (fun z => nomatch z) (wp_al0 (q := 16) dX3_makeList_15 rfl (wp_getf (q := 19) dX3_makeList_16 rfl f17 c0 c1 rfl (fun z => nomatch z) (wp_getf (q := 22) dX3_makeList_19 rfl f6 b0 b1 rfl (fun z => nomatch z) (wp_v2 (q := 25) dX3_makeList_22 rfl q76 (Nat.le_of_ble_eq_true rfl) rfl a0 a1 rfl rfl (ct_make d hL hR hn (by omega) (by omega) hvr) (fun r9 h9 e9 => ?_))))))))
    obtain ⟨rfl, ⟨rw2, rs2, hL2, hR2, hv3, hv4, -, -⟩, hf10⟩ := e9
    have hU := hU.fLi hL2 (fun j hj => hf10 j (by omega))
    obtain ⟨hC, hR, hB, hT, hL, hp⟩ := id hU
    obtain ⟨c0, c1⟩ := id hC
    obtain ⟨r0, r1, r2, r3, r4, r5⟩ := id hR
    obtain ⟨b0, b1, b2, b3, b4, b5, b6, b7, b8⟩ := id hB
    obtain ⟨t0, t1, t2, t3, t4, t5, t6, t7, t8⟩ := id hT
    obtain ⟨a0, a1, a2, a3, a4, a5, a6, a7, a8, a9⟩ := id hL
    show Wp _ _ _ _ [] _ _ _
    refine wp_al0 (q := 26) dX3_makeList_25 rfl (wp_ic (q := 27) dX3_makeList_26 rfl (by decide) (by decide) (wp_putf (q := 30) dX3_makeList_27 rfl f20 c0 c1 (Nat.le_of_ble_eq_true rfl) (Or.inr rfl) (fun z => absurd z (by decide)) ?_))
    have hU1 := hU.fCu (li' := 1) (we' := we)
    have c1 : (h9.set k (mO 3 [mR (k + 1), mR (k + 4), mR (k + 8), mR (k + 12), mI 1, mI we]))[k]? = some (mO 3 [mR (k + 1), mR (k + 4), mR (k + 8), mR (k + 12), mI 1, mI we]) := hU1.1.2
    refine wp_al0 (q := 31) dX3_makeList_30 rfl (wp_ic (q := 32) dX3_makeList_31 rfl (by decide) (by decide) (wp_putf (q := 35) dX3_makeList_32 rfl f21 c0 c1 (Nat.le_of_ble_eq_true rfl) (Or.inl rfl) (fun z => absurd z (by decide)) (wp_vret dX3_makeList_35 rfl ?_)))
    first
      | (have hl1 : li = 1 := by omega
         exact ⟨rfl, ⟨li, we, od, tsz, tpl, twi, tod, ln, rw, rs, lo, hU, hvr, hli, hwe, hlr, hlw, hl1⟩, fun _ _ => rfl⟩)
      | (have hU2 := hU1.fCu (li' := 1) (we' := 0)
         exact ⟨rfl, ⟨1, 0, od, tsz, tpl, twi, tod, _, rw2, rs2, lo, hU2, hv4, Or.inr rfl, Or.inl rfl, fun _ => ⟨rfl, hR2⟩, fun _ z => absurd z (by decide), rfl⟩, fun j hj => by rw [fr_set (by omega), fr_set (by omega)]; exact hf10 j (by omega)⟩)
theorem cs_draws (d : Nat) {h : List mC} {k n sz : Nat} {ch ro pl wi : List Int} (hS : CS h k n sz ch ro pl wi) (hn : n ≤ 8) : Ct (d + 13) mX3_draws [mR k] h (fun r9 h9 => r9 = some (mI ((rowsO n sz ro).length : Nat)) ∧ CSx (fun li _ => li = 1) h9 k n sz ch ro pl wi ∧ ∀ j : Nat, (j < k ∨ k + 16 ≤ j) → h9[j]? = h[j]?) := by
  obtain ⟨li, we, od, tsz, tpl, twi, tod, ln, rw, rs, lo, hU, hvr, hli, hwe, hlr, hlw, hf0⟩ := id hS
  obtain ⟨hC, hR, hB, hT, hL, hp⟩ := id hU
  obtain ⟨c0, c1⟩ := id hC
  obtain ⟨r0, r1, r2, r3, r4, r5⟩ := id hR
  obtain ⟨b0, b1, b2, b3, b4, b5, b6, b7, b8⟩ := id hB
  obtain ⟨t0, t1, t2, t3, t4, t5, t6, t7, t8⟩ := id hT
  obtain ⟨a0, a1, a2, a3, a4, a5, a6, a7, a8, a9⟩ := id hL
  show Wp _ mX3_draws 0 [mR k] [] h (0, 0) _
  refine wp_al0 (q := 1) dX3_draws_0 rfl (wp_v0 (q := 4) dX3_draws_1 rfl q75 (Nat.le_of_ble_eq_true rfl) rfl c0 c1 rfl rfl (cs_makeList d hS hn) (fun r9 h9 e9 => ?_))
  obtain ⟨rfl, hS1, hf10⟩ := e9
  obtain ⟨li, we, od, tsz, tpl, twi, tod, ln, rw, rs, lo, hU, hvr, hli, hwe, hlr, hlw, hli1⟩ := id hS1
  obtain ⟨hln, hrw⟩ := hlr hli1
  obtain ⟨hC, hR, hB, hT, hL, hp⟩ := id hU
  obtain ⟨c0, c1⟩ := id hC
  obtain ⟨r0, r1, r2, r3, r4, r5⟩ := id hR
  obtain ⟨b0, b1, b2, b3, b4, b5, b6, b7, b8⟩ := id hB
  obtain ⟨t0, t1, t2, t3, t4, t5, t6, t7, t8⟩ := id hT
  obtain ⟨a0, a1, a2, a3, a4, a5, a6, a7, a8, a9⟩ := id hL
  show Wp _ _ _ _ [] _ _ _
  refine wp_al0 (q := 5) dX3_draws_4 rfl (wp_getf (q := 8) dX3_draws_5 rfl f19 c0 c1 rfl (fun z => nomatch z) (wp_getf (q := 11) dX3_draws_8 rfl f12 a0 a1 rfl (fun z => nomatch z) (wp_iret dX3_draws_11 rfl ?_)))
  exact ⟨rI hln, hS1, hf10⟩
/-- a draw's place -/
def drA (R : List (List Int)) (i x : Int) : Int := gI (R.getD i.toNat []) x
theorem lp_dr {ln : Int} {R : List (List Int)} {rs : List Int} (hl : ln = (R.length : Nat)) (hr : RwA R rs) {i x : Int} (h0 : 0 ≤ i) (h1 : i < ln) (x0 : 0 ≤ x) (x1 : x < 8) : lpA ln rs i x = drA R i x := by
  unfold lpA drA
  rw [if_pos ⟨h0, h1, x0, x1⟩]
  have := hr i.toNat x.toNat (by omega) (by omega)
  rw [show ((i.toNat : Nat) : Int) = i by omega, show ((x.toNat : Nat) : Int) = x by omega] at this
  exact this
def spDraw (n sz : Nat) (ro : List Int) (i x : Int) : Int := if (0 ≤ i ∧ i < ((rowsO n sz ro).length : Nat)) ∧ (0 ≤ x ∧ x < sz) then tld (drA (rowsO n sz ro) i x) else -1
theorem cs_draw (d : Nat) {h : List mC} {k n sz : Nat} {ch ro pl wi : List Int} (hS : CS h k n sz ch ro pl wi) {i x : Int} (hn : n ≤ 8) : Ct (d + 13) mX3_draw [mR k, mI i, mI x] h (fun r9 h9 => r9 = some (mI (spDraw n sz ro i x)) ∧ CSx (fun li _ => li = 1) h9 k n sz ch ro pl wi ∧ ∀ j : Nat, (j < k ∨ k + 16 ≤ j) → h9[j]? = h[j]?) := by
  obtain ⟨li, we, od, tsz, tpl, twi, tod, ln, rw, rs, lo, hU, hvr, hli, hwe, hlr, hlw, hf0⟩ := id hS
  obtain ⟨hC, hR, hB, hT, hL, hp⟩ := id hU
  obtain ⟨c0, c1⟩ := id hC
  obtain ⟨r0, r1, r2, r3, r4, r5⟩ := id hR
  obtain ⟨b0, b1, b2, b3, b4, b5, b6, b7, b8⟩ := id hB
  obtain ⟨t0, t1, t2, t3, t4, t5, t6, t7, t8⟩ := id hT
  obtain ⟨a0, a1, a2, a3, a4, a5, a6, a7, a8, a9⟩ := id hL
  show Wp _ mX3_draw 0 [mR k, mI i, mI x] [] h (0, 0) _
  refine wp_al0 (q := 1) dX3_draw_0 rfl (wp_v0 (q := 4) dX3_draw_1 rfl q75 (Nat.le_of_ble_eq_true rfl) rfl c0 c1 rfl rfl (cs_makeList d hS hn) (fun r9 h9 e9 => ?_))
  obtain ⟨rfl, hS1, hf10⟩ := e9
  obtain ⟨li, we, od, tsz, tpl, twi, tod, ln, rw, rs, lo, hU, hvr, hli, hwe, hlr, hlw, hli1⟩ := id hS1
  obtain ⟨hln, hrw⟩ := hlr hli1
  obtain ⟨hC, hR, hB, hT, hL, hp⟩ := id hU
  obtain ⟨c0, c1⟩ := id hC
  obtain ⟨r0, r1, r2, r3, r4, r5⟩ := id hR
  obtain ⟨b0, b1, b2, b3, b4, b5, b6, b7, b8⟩ := id hB
  obtain ⟨t0, t1, t2, t3, t4, t5, t6, t7, t8⟩ := id hT
  obtain ⟨a0, a1, a2, a3, a4, a5, a6, a7, a8, a9⟩ := id hL
  show Wp _ _ _ _ [] _ _ _
  refine wp_al0 (q := 5) dX3_draw_4 rfl (wp_getf (q := 8) dX3_draw_5 rfl f19 c0 c1 rfl (fun z => nomatch z) (wp_il1 (q := 9) dX3_draw_8 rfl (wp_v1I (q := 12) dX3_draw_9 rfl q86 (Nat.le_of_ble_eq_true rfl) rfl a0 a1 rfl rfl (ct_Lhas (d + 12) hL) (wp_ifb_eq (t := 41) (q := 15) dX3_draw_12 rfl rfl (fun c12 => ?_) (fun c12 => ?_)))))
  · refine wp_ic (q := 42) dX3_draw_41 rfl (by decide) (by decide) (wp_iret dX3_draw_42 rfl ?_)
    first
      | (refine ⟨rI ?_, hS1, hf10⟩
         unfold spDraw
         rw [if_neg (by omega)])
      | (refine ⟨rI ?_, hS1, hf10⟩
         unfold spDraw
         rw [if_pos (by omega), lp_dr hln hrw (by omega) (by omega) (by omega) (by omega)])
  · refine wp_al0 (q := 16) dX3_draw_15 rfl (wp_getf (q := 19) dX3_draw_16 rfl f17 c0 c1 rfl (fun z => nomatch z) (wp_il2 (q := 20) dX3_draw_19 rfl (wp_v1I (q := 23) dX3_draw_20 rfl q24 (Nat.le_of_ble_eq_true rfl) rfl b0 b1 rfl rfl (ct_hasPlace (d + 12) hB) (wp_ifb_eq (t := 41) (q := 26) dX3_draw_23 rfl rfl (fun c23 => ?_) (fun c23 => ?_)))))
    · refine wp_ic (q := 42) dX3_draw_41 rfl (by decide) (by decide) (wp_iret dX3_draw_42 rfl ?_)
      first
        | (refine ⟨rI ?_, hS1, hf10⟩
           unfold spDraw
           rw [if_neg (by omega)])
        | (refine ⟨rI ?_, hS1, hf10⟩
           unfold spDraw
           rw [if_pos (by omega), lp_dr hln hrw (by omega) (by omega) (by omega) (by omega)])
    · refine wp_al0 (q := 27) dX3_draw_26 rfl (wp_getf (q := 30) dX3_draw_27 rfl f19 c0 c1 rfl (fun z => nomatch z) (wp_il1 (q := 31) dX3_draw_30 rfl (wp_il2 (q := 32) dX3_draw_31 rfl (wp_v2I (q := 35) dX3_draw_32 rfl q87 (Nat.le_of_ble_eq_true rfl) rfl a0 a1 rfl rfl (ct_LplayerAt (d + 11) hL (by omega) (by omega) (by omega) (by omega)) (wp_s1I (q := 38) dX3_draw_35 rfl q30 (Nat.le_of_ble_eq_true rfl) rfl rfl rfl (ct_told (d + 12)) (wp_goto (q := 42) dX3_draw_38 rfl (wp_iret dX3_draw_42 rfl ?_)))))))
      first
        | (refine ⟨rI ?_, hS1, hf10⟩
           unfold spDraw
           rw [if_neg (by omega)])
        | (refine ⟨rI ?_, hS1, hf10⟩
           unfold spDraw
           rw [if_pos (by omega), lp_dr hln hrw (by omega) (by omega) (by omega) (by omega)])
theorem lay8_congr {f g : Int → Int} {sz : Int} (h : ∀ x : Int, 0 ≤ x → x < 8 → f x = g x) : lay8 f sz = lay8 g sz := by
  unfold lay8
  refine List.map_congr_left (fun y hy => ?_)
  have := List.mem_range.mp hy
  rw [h y (by omega) (by omega)]
def spLay (n sz : Nat) (ro : List Int) (i : Int) : Int := if 0 ≤ i ∧ i < ((rowsO n sz ro).length : Nat) then 1 else -1
theorem cs_lay (d : Nat) {h : List mC} {k n sz : Nat} {ch ro pl wi : List Int} (hS : CS h k n sz ch ro pl wi) {i : Int} (hn : n ≤ 8) (hpt : ∀ y : Int, sz ≤ y → y < 8 → gI pl y = 8) : Ct (d + 13) mX3_lay [mR k, mI i] h (fun r9 h9 => r9 = some (mI (spLay n sz ro i)) ∧ (if 0 ≤ i ∧ i < ((rowsO n sz ro).length : Nat) then CS h9 k n sz ch ro (lay8 (drA (rowsO n sz ro) i) sz) (List.replicate 8 8) else CS h9 k n sz ch ro pl wi) ∧ ∀ j : Nat, (j < k ∨ k + 16 ≤ j) → h9[j]? = h[j]?) := by
  obtain ⟨li, we, od, tsz, tpl, twi, tod, ln, rw, rs, lo, hU, hvr, hli, hwe, hlr, hlw, hf0⟩ := id hS
  obtain ⟨hC, hR, hB, hT, hL, hp⟩ := id hU
  obtain ⟨c0, c1⟩ := id hC
  obtain ⟨r0, r1, r2, r3, r4, r5⟩ := id hR
  obtain ⟨b0, b1, b2, b3, b4, b5, b6, b7, b8⟩ := id hB
  obtain ⟨t0, t1, t2, t3, t4, t5, t6, t7, t8⟩ := id hT
  obtain ⟨a0, a1, a2, a3, a4, a5, a6, a7, a8, a9⟩ := id hL
  show Wp _ mX3_lay 0 [mR k, mI i] [] h (0, 0) _
  refine wp_al0 (q := 1) dX3_lay_0 rfl (wp_v0 (q := 4) dX3_lay_1 rfl q75 (Nat.le_of_ble_eq_true rfl) rfl c0 c1 rfl rfl (cs_makeList d hS hn) (fun r9 h9 e9 => ?_))
  obtain ⟨rfl, hS1, hf10⟩ := e9
  obtain ⟨li, we, od, tsz, tpl, twi, tod, ln, rw, rs, lo, hU, hvr, hli, hwe, hlr, hlw, hli1⟩ := id hS1
  obtain ⟨hln, hrw⟩ := hlr hli1
  obtain ⟨hC, hR, hB, hT, hL, hp⟩ := id hU
  obtain ⟨c0, c1⟩ := id hC
  obtain ⟨r0, r1, r2, r3, r4, r5⟩ := id hR
  obtain ⟨b0, b1, b2, b3, b4, b5, b6, b7, b8⟩ := id hB
  obtain ⟨t0, t1, t2, t3, t4, t5, t6, t7, t8⟩ := id hT
  obtain ⟨a0, a1, a2, a3, a4, a5, a6, a7, a8, a9⟩ := id hL
  show Wp _ _ _ _ [] _ _ _
  refine wp_al0 (q := 5) dX3_lay_4 rfl (wp_getf (q := 8) dX3_lay_5 rfl f19 c0 c1 rfl (fun z => nomatch z) (wp_il1 (q := 9) dX3_lay_8 rfl (wp_v1I (q := 12) dX3_lay_9 rfl q86 (Nat.le_of_ble_eq_true rfl) rfl a0 a1 rfl rfl (ct_Lhas (d + 12) hL) (wp_ifb_ne (t := 17) (q := 15) dX3_lay_12 rfl rfl (fun c12 => ?_) (fun c12 => ?_)))))
  · refine wp_al0 (q := 18) dX3_lay_17 rfl (wp_getf (q := 21) dX3_lay_18 rfl f19 c0 c1 rfl (fun z => nomatch z) (wp_al0 (q := 22) dX3_lay_21 rfl (wp_getf (q := 25) dX3_lay_22 rfl f17 c0 c1 rfl (fun z => nomatch z) (wp_il1 (q := 26) dX3_lay_25 rfl (wp_v2V (q := 29) dX3_lay_26 rfl q90 (Nat.le_of_ble_eq_true rfl) rfl a0 a1 rfl rfl (ct_layInto (d + 10) hL hB (by omega) hpt (i := i) (by omega) (by omega)) (wp_ic (q := 30) dX3_lay_29 rfl (by decide) (by decide) (wp_iret dX3_lay_30 rfl ?_)))))))
    have hB2 := (hB.setP (pl' := lay8 (lpA ln rs i) sz) (lay8_len _ _)).setW (wi' := List.replicate 8 8) rep_len
    have hU2 := hU.fBr hB2 (fun j hj => by rw [fr_set (by omega), fr_set (by omega)])
    refine ⟨rI (by unfold spLay; rw [if_pos (by omega)]), ?_, fun j hj => by rw [fr_set (by omega), fr_set (by omega)]; exact hf10 j hj⟩
    rw [if_pos (by omega)]
    rw [lay8_congr (g := drA (rowsO n sz ro) i) (fun x x0 x1 => lp_dr hln hrw (by omega) (by omega) x0 x1)] at hU2 ⊢
    exact ⟨li, we, od, tsz, tpl, twi, tod, ln, rw, rs, lo, hU2, hvr, hli, hwe, hlr, hlw, trivial⟩
  · refine wp_ic (q := 16) dX3_lay_15 rfl (by decide) (by decide) (wp_iret dX3_lay_16 rfl ?_)
    exact ⟨rI (by unfold spLay; rw [if_neg (by omega)]), by rw [if_neg (by omega)]; exact hS1.weak, hf10⟩
theorem fndF_congr {f g : Int → Int} {v : Int} {n : Nat} (h : ∀ j : Nat, j < n → f j = g j) : ∀ k, k ≤ n → fndF f v n k = fndF g v n k
  | 0, _ => rfl
  | k + 1, hk => by
    unfold fndF
    rw [h (n - (k + 1)) (by omega), fndF_congr h k (by omega)]
/-- the number of the draw that is a row -/
def lkA (R : List (List Int)) (l : List Int) : Int := fndF (fun i => bI (∀ x : Nat, x < 8 → drA R i x = gI l x)) 1 R.length R.length
def spLike (n sz : Nat) (ro pl : List Int) : Int := if lkA (rowsO n sz ro) (ordL pl sz) = -1 then -9 else lkA (rowsO n sz ro) (ordL pl sz)
theorem cs_like (d : Nat) {h : List mC} {k n sz : Nat} {ch ro pl wi : List Int} (hS : CS h k n sz ch ro pl wi) (hn : n ≤ 8) : Ct (d + 13) mX3_like [mR k] h (fun r9 h9 => r9 = some (mI (spLike n sz ro pl)) ∧ CS h9 k n sz ch ro pl wi ∧ ∀ j : Nat, (j < k ∨ k + 16 ≤ j) → h9[j]? = h[j]?) := by
  obtain ⟨li, we, od, tsz, tpl, twi, tod, ln, rw, rs, lo, hU, hvr, hli, hwe, hlr, hlw, hf0⟩ := id hS
  obtain ⟨hC, hR, hB, hT, hL, hp⟩ := id hU
  obtain ⟨c0, c1⟩ := id hC
  obtain ⟨r0, r1, r2, r3, r4, r5⟩ := id hR
  obtain ⟨b0, b1, b2, b3, b4, b5, b6, b7, b8⟩ := id hB
  obtain ⟨t0, t1, t2, t3, t4, t5, t6, t7, t8⟩ := id hT
  obtain ⟨a0, a1, a2, a3, a4, a5, a6, a7, a8, a9⟩ := id hL
  show Wp _ mX3_like 0 [mR k, mU] [] h (0, 0) _
  refine wp_al0 (q := 1) dX3_like_0 rfl (wp_v0 (q := 4) dX3_like_1 rfl q75 (Nat.le_of_ble_eq_true rfl) rfl c0 c1 rfl rfl (cs_makeList d hS hn) (fun r9 h9 e9 => ?_))
  obtain ⟨rfl, hS1, hf10⟩ := e9
  obtain ⟨li, we, od, tsz, tpl, twi, tod, ln, rw, rs, lo, hU, hvr, hli, hwe, hlr, hlw, hli1⟩ := id hS1
  obtain ⟨hln, hrw⟩ := hlr hli1
  obtain ⟨hC, hR, hB, hT, hL, hp⟩ := id hU
  obtain ⟨c0, c1⟩ := id hC
  obtain ⟨r0, r1, r2, r3, r4, r5⟩ := id hR
  obtain ⟨b0, b1, b2, b3, b4, b5, b6, b7, b8⟩ := id hB
  obtain ⟨t0, t1, t2, t3, t4, t5, t6, t7, t8⟩ := id hT
  obtain ⟨a0, a1, a2, a3, a4, a5, a6, a7, a8, a9⟩ := id hL
  show Wp _ _ _ _ [] _ _ _
  have hU2 := hU.fLi (hL.setW (ordL_len b5 (sz : Int))) (fun j hj => fr_set (by omega))
  have enl : nlA ln rs (ordL pl sz) = lkA (rowsO n sz ro) (ordL pl sz) := by
    unfold nlA lkA
    rw [show ln.toNat = (rowsO n sz ro).length by omega]
    refine fndF_congr (fun j hj => bI_c ?_) _ (Nat.le_refl _)
    constructor
    · intro z x hx
      rw [← z x hx]
      exact (lp_dr hln hrw (by omega) (by omega) (by omega) (by omega)).symm
    · intro z x hx
      rw [← z x hx]
      exact lp_dr hln hrw (by omega) (by omega) (by omega) (by omega)
  refine wp_al0 (q := 5) dX3_like_4 rfl (wp_getf (q := 8) dX3_like_5 rfl f19 c0 c1 rfl (fun z => nomatch z) (wp_al0 (q := 9) dX3_like_8 rfl (wp_getf (q := 12) dX3_like_9 rfl f17 c0 c1 rfl (fun z => nomatch z) (wp_v1I (q := 15) dX3_like_12 rfl q95 (Nat.le_of_ble_eq_true rfl) rfl a0 a1 rfl rfl (by have z := ct_numberOfLike (d + 9) hL hB (by omega); rw [enl] at z; exact z) (wp_is1 (q := 16) dX3_like_15 rfl rfl (wp_il1 (q := 17) dX3_like_16 rfl (wp_ic (q := 18) dX3_like_17 rfl (by decide) (by decide) (wp_icmp_ne (t := 26) (q := 21) dX3_like_18 rfl rfl (fun c18 => ?_) (fun c18 => ?_)))))))))
  · refine wp_il1 (q := 27) dX3_like_26 rfl (wp_iret dX3_like_27 rfl ?_)
    refine ⟨rI ?_, ⟨li, we, od, tsz, tpl, twi, tod, ln, _, rs, lo, hU2, hvr, hli, hwe, hlr, hlw, trivial⟩, fun j hj => by rw [fr_set (by omega)]; exact hf10 j hj⟩
    unfold spLike
    first
      | rw [if_pos c18]
      | rw [if_neg c18]
  · refine wp_bi (q := 23) dX3_like_21 rfl (by decide) (by decide) (wp_goto (q := 27) dX3_like_23 rfl (wp_iret dX3_like_27 rfl ?_))
    refine ⟨rI ?_, ⟨li, we, od, tsz, tpl, twi, tod, ln, _, rs, lo, hU2, hvr, hli, hwe, hlr, hlw, trivial⟩, fun j hj => by rw [fr_set (by omega)]; exact hf10 j hj⟩
    unfold spLike
    first
      | rw [if_pos c18]
      | rw [if_neg c18]
