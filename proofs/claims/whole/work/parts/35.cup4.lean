/-! CupDraws: best, wins, mean, first (rows laid by wip/whole) -/
/-- a player's odds to win the final of a draw -/
def wnA (n sz : Nat) (ro ch : List Int) (i v : Int) : Int := odR (lay8 (drA (rowsO n sz ro) i) sz) (List.replicate 8 8) ch sz (lrA sz).toNat (plO (lay8 (drA (rowsO n sz ro) i) sz) sz v)
theorem plO_at {pl : List Int} {sz : Nat} {v x : Int} (h8 : v ≠ 8) (x0 : 0 ≤ x) (x1 : x < sz) (hx : rd8 pl x = v) (hu : ∀ y : Int, 0 ≤ y → y < sz → rd8 pl y = v → y = x) : plO pl sz v = x := by
  unfold plO
  rw [if_neg h8]
  have h1 := fndF_in (f := rd8 pl) (v := v) (n := (sz : Int).toNat) _ (Nat.le_refl _)
  by_cases e : fndF (rd8 pl) v (sz : Int).toNat (sz : Int).toNat = -1
  · have := fndF_no (f := rd8 pl) (v := v) (n := (sz : Int).toNat) _ (Nat.le_refl _) e x.toNat (by omega) (by omega)
    rw [show ((x.toNat : Nat) : Int) = x by omega] at this
    exact absurd hx this
  · exact hu _ (by omega) (by omega) (h1.2.2 e)
theorem lo_wn {n sz : Nat} {ro ch rs lo : List Int} {ln : Int} (hn : n ≤ 8) (hs : (sz : Int) = 2 ∨ (sz : Int) = 4 ∨ (sz : Int) = 8) (hl : ln = ((rowsO n sz ro).length : Nat)) (hr : RwA (rowsO n sz ro) rs) (hw : WtOk ln sz rs lo ch) {i v : Int} (i0 : 0 ≤ i) (i1 : i < ln) (v0 : 0 ≤ v) (v1 : v < n) : loA ln lo i v = wnA n sz ro ch i v := by
  obtain ⟨g1, g2, g3, g4⟩ := drG (ro := ro) hn (by omega : sz ≤ 8) i0 (by omega : i < ((rowsO n sz ro).length : Nat))
  obtain ⟨x, x0, x1, hx⟩ := g4 v v0 v1
  have e1 : lpA ln rs i x = v := (lp_dr hl hr i0 i1 x0 (by omega)).trans hx
  have e2 := hw i x i0 i1 x0 x1 (by rw [e1]; omega)
  rw [e1] at e2
  rw [e2]
  unfold wnA
  rw [lay8_congr (f := lpA ln rs i) (g := drA (rowsO n sz ro) i) (fun y y0 y1 => lp_dr hl hr i0 i1 y0 y1)]
  congr 1
  refine (plO_at (by omega) x0 x1 (by rw [lay8_rd x0 x1 (by omega)]; exact hx) (fun y y0 y1 hy => ?_)).symm
  rw [lay8_rd y0 y1 (by omega)] at hy
  exact g2 y x y0 y1 x0 x1 (hy.trans hx.symm) (by rw [show gI ((rowsO n sz ro).getD i.toNat []) y = v from hy]; omega)
theorem wn_in {n sz : Nat} {ro ch : List Int} (hch : chB ch) (hs : (sz : Int) = 2 ∨ (sz : Int) = 4 ∨ (sz : Int) = 8) (i v : Int) : 0 ≤ wnA n sz ro ch i v ∧ wnA n sz ro ch i v ≤ 75144747810816 := by
  have l3 := (lrA_in hs).2
  have := odR_in (pl := lay8 (drA (rowsO n sz ro) i) sz) (wi := List.replicate 8 8) (sz := sz) hch (lrA sz).toNat (by omega) (plO (lay8 (drA (rowsO n sz ro) i) sz) sz v)
  have := bdA_top (lrA sz).toNat
  unfold wnA
  omega
theorem cs_weighList (d : Nat) {f : Int → Int → Prop} {h : List mC} {k n sz : Nat} {ch ro pl wi : List Int} (hS : CSx f h k n sz ch ro pl wi) (hch : chB ch) (hn : n ≤ 8) : Ct (d + 13) mX3_weighList [mR k] h (fun r9 h9 => r9 = none ∧ CSx (fun li we => li = 1 ∧ we = 1) h9 k n sz ch ro pl wi ∧ ∀ j : Nat, (j < k ∨ k + 16 ≤ j) → h9[j]? = h[j]?) := by
  obtain ⟨li, we, od, tsz, tpl, twi, tod, ln, rw, rs, lo, hU, hvr, hli, hwe, hlr, hlw, hf0⟩ := id hS
  obtain ⟨hC, hR, hB, hT, hL, hp⟩ := id hU
  obtain ⟨c0, c1⟩ := id hC
  obtain ⟨r0, r1, r2, r3, r4, r5⟩ := id hR
  obtain ⟨b0, b1, b2, b3, b4, b5, b6, b7, b8⟩ := id hB
  obtain ⟨t0, t1, t2, t3, t4, t5, t6, t7, t8⟩ := id hT
  obtain ⟨a0, a1, a2, a3, a4, a5, a6, a7, a8, a9⟩ := id hL
  show Wp _ mX3_weighList 0 [mR k] [] h (0, 0) _
  refine wp_al0 (q := 1) dX3_weighList_0 rfl (wp_v0 (q := 4) dX3_weighList_1 rfl q75 (Nat.le_of_ble_eq_true rfl) rfl c0 c1 rfl rfl (cs_makeList d hS hn) (fun r9 h9 e9 => ?_))
  obtain ⟨rfl, hS1, hf10⟩ := e9
  obtain ⟨li, we, od, tsz, tpl, twi, tod, ln, rw, rs, lo, hU, hvr, hli, hwe, hlr, hlw, hli1⟩ := id hS1
  obtain ⟨hln, hrw⟩ := hlr hli1
  obtain ⟨hC, hR, hB, hT, hL, hp⟩ := id hU
  obtain ⟨c0, c1⟩ := id hC
  obtain ⟨r0, r1, r2, r3, r4, r5⟩ := id hR
  obtain ⟨b0, b1, b2, b3, b4, b5, b6, b7, b8⟩ := id hB
  obtain ⟨t0, t1, t2, t3, t4, t5, t6, t7, t8⟩ := id hT
  obtain ⟨a0, a1, a2, a3, a4, a5, a6, a7, a8, a9⟩ := id hL
  show Wp _ _ _ _ [] _ _ _
  refine wp_al0 (q := 5) dX3_weighList_4 rfl (wp_getf (q := 8) dX3_weighList_5 rfl f21 c0 c1 rfl (fun z => nomatch z) (wp_if_ne (t := 45) (q := 11) dX3_weighList_8 rfl rfl (fun c8 => ?_) (fun c8 => ?_)))
  · refine wp_vret dX3_weighList_45 rfl ?_
    first
      | (have hw1 : we = 1 := by omega
         exact ⟨rfl, ⟨li, we, od, tsz, tpl, twi, tod, ln, rw, rs, lo, hU, hvr, hli, hwe, hlr, hlw, hli1, hw1⟩, hf10⟩)
      | (have hU2 := hU.fCu (li' := li) (we' := 1)
         exact ⟨rfl, ⟨li, 1, od, _, tpl3, twi3, tod3, ln, rw, rs, lo3, hU2, hvr, hli, Or.inr rfl, hlr, fun _ _ => hwt, hli1, rfl⟩, fun j hj => by rw [fr_set (by omega), hf12 j (by omega) (by omega), hf11 j (by omega)]; exact hf10 j hj⟩)
  · refine wp_al0 (q := 12) dX3_weighList_11 rfl (wp_getf (q := 15) dX3_weighList_12 rfl f18 c0 c1 rfl (fun z => nomatch z) (wp_al0 (q := 16) dX3_weighList_15 rfl (wp_getf (q := 19) dX3_weighList_16 rfl f17 c0 c1 rfl (fun z => nomatch z) (wp_getf (q := 22) dX3_weighList_19 rfl f6 b0 b1 rfl (fun z => nomatch z) (wp_v1 (q := 25) dX3_weighList_22 rfl q22 (Nat.le_of_ble_eq_true rfl) rfl t0 t1 rfl rfl ((cr_resize (d := d + 9) hT b8)) (fun r9 h9 e9 => ?_))))))
    obtain ⟨rfl, hT9, hf11⟩ := e9
    have hU := hU.fTr hT9 hf11
    obtain ⟨hC, hR, hB, hT, hL, hp⟩ := id hU
    obtain ⟨c0, c1⟩ := id hC
    obtain ⟨r0, r1, r2, r3, r4, r5⟩ := id hR
    obtain ⟨b0, b1, b2, b3, b4, b5, b6, b7, b8⟩ := id hB
    obtain ⟨t0, t1, t2, t3, t4, t5, t6, t7, t8⟩ := id hT
    obtain ⟨a0, a1, a2, a3, a4, a5, a6, a7, a8, a9⟩ := id hL
    show Wp _ _ _ _ [] _ _ _
    refine wp_al0 (q := 26) dX3_weighList_25 rfl (wp_getf (q := 29) dX3_weighList_26 rfl f19 c0 c1 rfl (fun z => nomatch z) (wp_al0 (q := 30) dX3_weighList_29 rfl (wp_getf (q := 33) dX3_weighList_30 rfl f18 c0 c1 rfl (fun z => nomatch z) (wp_al0 (q := 34) dX3_weighList_33 rfl (wp_getf (q := 37) dX3_weighList_34 rfl f16 c0 c1 rfl (fun z => nomatch z) (wp_v2 (q := 40) dX3_weighList_37 rfl q102 (Nat.le_of_ble_eq_true rfl) rfl a0 a1 rfl rfl (ct_Lweigh (d + 7) hL hT (by omega) (fun y y0 y1 => by
  obtain ⟨z, rfl⟩ := Int.eq_ofNat_of_zero_le (by omega : 0 ≤ y)
  rw [gI_rep, if_pos (by omega)]) hR hp hch (by omega) (by omega) hvr (fun i x y i0 i1 x0 x1 y0 y1 e e8 => by
  obtain ⟨g1, g2, g3, g4⟩ := drG (ro := ro) hn (by omega : sz ≤ 8) i0 (by omega : i < ((rowsO n sz ro).length : Nat))
  rw [lp_dr hln hrw i0 i1 x0 (by omega)] at e e8
  rw [lp_dr hln hrw i0 i1 y0 (by omega)] at e
  exact g2 x y x0 x1 y0 y1 e e8)) (fun r9 h9 e9 => ?_)))))))
    obtain ⟨rfl, tpl3, twi3, tod3, lo3, hT3, -, hL3, hf12, hwt⟩ := e9
    have hU := hU.fTL hT3 hL3 (fun j hj => hf12 j (by omega) (by omega))
    obtain ⟨hC, hR, hB, hT, hL, hp⟩ := id hU
    obtain ⟨c0, c1⟩ := id hC
    obtain ⟨r0, r1, r2, r3, r4, r5⟩ := id hR
    obtain ⟨b0, b1, b2, b3, b4, b5, b6, b7, b8⟩ := id hB
    obtain ⟨t0, t1, t2, t3, t4, t5, t6, t7, t8⟩ := id hT
    obtain ⟨a0, a1, a2, a3, a4, a5, a6, a7, a8, a9⟩ := id hL
    show Wp _ _ _ _ [] _ _ _
    refine wp_al0 (q := 41) dX3_weighList_40 rfl (wp_ic (q := 42) dX3_weighList_41 rfl (by decide) (by decide) (wp_putf (q := 45) dX3_weighList_42 rfl f21 c0 c1 (Nat.le_of_ble_eq_true rfl) (Or.inr rfl) (fun z => absurd z (by decide)) (wp_vret dX3_weighList_45 rfl ?_)))
    first
      | (have hw1 : we = 1 := by omega
         exact ⟨rfl, ⟨li, we, od, tsz, tpl, twi, tod, ln, rw, rs, lo, hU, hvr, hli, hwe, hlr, hlw, hli1, hw1⟩, hf10⟩)
      | (have hU2 := hU.fCu (li' := li) (we' := 1)
         exact ⟨rfl, ⟨li, 1, od, _, tpl3, twi3, tod3, ln, rw, rs, lo3, hU2, hvr, hli, Or.inr rfl, hlr, fun _ _ => hwt, hli1, rfl⟩, fun j hj => by rw [fr_set (by omega), hf12 j (by omega) (by omega), hf11 j (by omega)]; exact hf10 j hj⟩)
def spWins (n sz : Nat) (ro ch : List Int) (i v : Int) (up : Prop) [Decidable up] : Int := if ¬ ((0 ≤ i ∧ i < ((rowsO n sz ro).length : Nat)) ∧ (0 ≤ v ∧ v < n)) then -1 else fcA (wnA n sz ro ch i v) (pts (lrA sz)) up
theorem cs_wins (d : Nat) {h : List mC} {k n sz : Nat} {ch ro pl wi : List Int} (hS : CS h k n sz ch ro pl wi) (hch : chB ch) (hn : n ≤ 8) {i v : Int} {up : Prop} [Decidable up] : Ct (d + 14) mX3_wins [mR k, mI i, mI v, mI (bI up)] h (fun r9 h9 => r9 = some (mL (spWins n sz ro ch i v up)) ∧ CS h9 k n sz ch ro pl wi ∧ ∀ j : Nat, (j < k ∨ k + 16 ≤ j) → h9[j]? = h[j]?) := by
  obtain ⟨li, we, od, tsz, tpl, twi, tod, ln, rw, rs, lo, hU, hvr, hli, hwe, hlr, hlw, hf0⟩ := id hS
  obtain ⟨hC, hR, hB, hT, hL, hp⟩ := id hU
  obtain ⟨c0, c1⟩ := id hC
  obtain ⟨r0, r1, r2, r3, r4, r5⟩ := id hR
  obtain ⟨b0, b1, b2, b3, b4, b5, b6, b7, b8⟩ := id hB
  obtain ⟨t0, t1, t2, t3, t4, t5, t6, t7, t8⟩ := id hT
  obtain ⟨a0, a1, a2, a3, a4, a5, a6, a7, a8, a9⟩ := id hL
  show Wp _ mX3_wins 0 [mR k, mI i, mI v, mI (bI up)] [] h (0, 0) _
  refine wp_al0 (q := 1) dX3_wins_0 rfl (wp_v0 (q := 4) dX3_wins_1 rfl q75 (Nat.le_of_ble_eq_true rfl) rfl c0 c1 rfl rfl ((cs_makeList 0 hS hn).up (by omega)) (fun r9 h9 e9 => ?_))
  obtain ⟨rfl, hS1, hf10⟩ := e9
  obtain ⟨li, we, od, tsz, tpl, twi, tod, ln, rw, rs, lo, hU, hvr, hli, hwe, hlr, hlw, hli1⟩ := id hS1
  obtain ⟨hln, hrw⟩ := hlr hli1
  obtain ⟨hC, hR, hB, hT, hL, hp⟩ := id hU
  obtain ⟨c0, c1⟩ := id hC
  obtain ⟨r0, r1, r2, r3, r4, r5⟩ := id hR
  obtain ⟨b0, b1, b2, b3, b4, b5, b6, b7, b8⟩ := id hB
  obtain ⟨t0, t1, t2, t3, t4, t5, t6, t7, t8⟩ := id hT
  obtain ⟨a0, a1, a2, a3, a4, a5, a6, a7, a8, a9⟩ := id hL
  show Wp _ _ _ _ [] _ _ _
  refine wp_al0 (q := 5) dX3_wins_4 rfl (wp_getf (q := 8) dX3_wins_5 rfl f19 c0 c1 rfl (fun z => nomatch z) (wp_il1 (q := 9) dX3_wins_8 rfl (wp_v1I (q := 12) dX3_wins_9 rfl q86 (Nat.le_of_ble_eq_true rfl) rfl a0 a1 rfl rfl ((ct_Lhas 0 hL).up (by omega)) (wp_ifb_eq (t := 26) (q := 15) dX3_wins_12 rfl rfl (fun c12 => ?_) (fun c12 => ?_)))))
  · refine wp_ldl (-1) (q := 29) dX3_wins_26 rfl l1 (by decide) (by decide) (wp_lret dX3_wins_29 rfl ?_)
    exact ⟨rJ (by unfold spWins; rw [if_pos (by omega)]), hS1.weak, hf10⟩
  · refine wp_al0 (q := 16) dX3_wins_15 rfl (wp_getf (q := 19) dX3_wins_16 rfl f16 c0 c1 rfl (fun z => nomatch z) (wp_il2 (q := 20) dX3_wins_19 rfl (wp_v1I (q := 23) dX3_wins_20 rfl q14 (Nat.le_of_ble_eq_true rfl) rfl r0 r1 rfl rfl ((ct_Rhas 0 hR).up (by omega)) (wp_ifb_ne (t := 30) (q := 26) dX3_wins_23 rfl rfl (fun c23 => ?_) (fun c23 => ?_)))))
    · refine wp_al0 (q := 31) dX3_wins_30 rfl (wp_v0 (q := 34) dX3_wins_31 rfl q101 (Nat.le_of_ble_eq_true rfl) rfl c0 c1 rfl rfl (cs_weighList d hS1 hch hn) (fun r9 h9 e9 => ?_))
      obtain ⟨rfl, hS2, hf20⟩ := e9
      obtain ⟨li, we, od, tsz, tpl, twi, tod, ln, rw, rs, lo, hU, hvr, hli, hwe, hlr, hlw, hli1⟩ := id hS2
      obtain ⟨hln, hrw⟩ := hlr hli1.1
      obtain ⟨hC, hR, hB, hT, hL, hp⟩ := id hU
      obtain ⟨c0, c1⟩ := id hC
      obtain ⟨r0, r1, r2, r3, r4, r5⟩ := id hR
      obtain ⟨b0, b1, b2, b3, b4, b5, b6, b7, b8⟩ := id hB
      obtain ⟨t0, t1, t2, t3, t4, t5, t6, t7, t8⟩ := id hT
      obtain ⟨a0, a1, a2, a3, a4, a5, a6, a7, a8, a9⟩ := id hL
      have hwt := hlw hli1.1 hli1.2
      show Wp _ _ _ _ [] _ _ _
      refine wp_al0 (q := 35) dX3_wins_34 rfl (wp_getf (q := 38) dX3_wins_35 rfl f19 c0 c1 rfl (fun z => nomatch z) (wp_il1 (q := 39) dX3_wins_38 rfl (wp_il2 (q := 40) dX3_wins_39 rfl (wp_v2I (q := 43) dX3_wins_40 rfl q108 (Nat.le_of_ble_eq_true rfl) rfl a0 a1 rfl rfl (by have z := (ct_LoddsOf 0 hL (i := i) (x := v) (by omega) (by omega) (by omega) (by omega)).up (D := d + 13) (by omega); rw [lo_wn hn b8 hln hrw hwt (by omega) (by omega) (by omega) (by omega)] at z; exact z) (wp_al0 (q := 44) dX3_wins_43 rfl (wp_getf (q := 47) dX3_wins_44 rfl f17 c0 c1 rfl (fun z => nomatch z) (wp_v0I (q := 50) dX3_wins_47 rfl q65 (Nat.le_of_ble_eq_true rfl) rfl b0 b1 rfl rfl ((ct_lastRound 0 hB).up (by omega)) ?_)))))))
      have hlr3 := lrA_in b8
      have hwn := wn_in (n := n) (ro := ro) hch b8 i v
      have hpt := ptsR (r := lrA sz) (by omega) (by omega)
      refine wp_s1I (q := 53) dX3_wins_50 rfl q67 (Nat.le_of_ble_eq_true rfl) rfl rfl rfl ((ct_partsOf 0 hp).up (by omega)) (wp_il3 (q := 54) dX3_wins_53 rfl (wp_s3I (q := 57) dX3_wins_54 rfl q68 (Nat.le_of_ble_eq_true rfl) rfl rfl rfl ((ct_fraction 0 (by omega) (by omega) (by omega) (by omega)).up (by omega)) (wp_lret dX3_wins_57 rfl ?_)))
      exact ⟨rJ (by unfold spWins; rw [if_neg (by omega)]), hS2.weak, fun j hj => by rw [hf20 j hj]; exact hf10 j hj⟩
    · refine wp_ldl (-1) (q := 29) dX3_wins_26 rfl l1 (by decide) (by decide) (wp_lret dX3_wins_29 rfl ?_)
      exact ⟨rJ (by unfold spWins; rw [if_pos (by omega)]), hS1.weak, hf10⟩
def spMean (n sz : Nat) (ro ch : List Int) (v : Int) (up : Prop) [Decidable up] : Int := if ¬ (0 ≤ v ∧ v < n) then -1 else if (rowsO n sz ro).length = 0 then -3 else fcA (sumN (fun i => wnA n sz ro ch i v) (rowsO n sz ro).length) (pts (lrA sz) * ((rowsO n sz ro).length : Nat)) up
theorem rowsO_le (n sz : Nat) (ro : List Int) : (rowsO n sz ro).length ≤ 315 := by unfold rowsO; rw [List.length_take]; omega
theorem cs_mean (d : Nat) {h : List mC} {k n sz : Nat} {ch ro pl wi : List Int} (hS : CS h k n sz ch ro pl wi) (hch : chB ch) (hn : n ≤ 8) {v : Int} {up : Prop} [Decidable up] : Ct (d + 14) mX3_mean [mR k, mI v, mI (bI up)] h (fun r9 h9 => r9 = some (mL (spMean n sz ro ch v up)) ∧ CS h9 k n sz ch ro pl wi ∧ ∀ j : Nat, (j < k ∨ k + 16 ≤ j) → h9[j]? = h[j]?) := by
  obtain ⟨li, we, od, tsz, tpl, twi, tod, ln, rw, rs, lo, hU, hvr, hli, hwe, hlr, hlw, hf0⟩ := id hS
  obtain ⟨hC, hR, hB, hT, hL, hp⟩ := id hU
  obtain ⟨c0, c1⟩ := id hC
  obtain ⟨r0, r1, r2, r3, r4, r5⟩ := id hR
  obtain ⟨b0, b1, b2, b3, b4, b5, b6, b7, b8⟩ := id hB
  obtain ⟨t0, t1, t2, t3, t4, t5, t6, t7, t8⟩ := id hT
  obtain ⟨a0, a1, a2, a3, a4, a5, a6, a7, a8, a9⟩ := id hL
  have hrl := rowsO_le n sz ro
  have hlr3 := lrA_in b8
  have hpt := ptsR (r := lrA sz) (by omega) (by omega)
  have hsum : ∀ j : Nat, j ≤ 315 → 0 ≤ sumN (fun i => wnA n sz ro ch i v) j ∧ sumN (fun i => wnA n sz ro ch i v) j ≤ 315 * 75144747810816 := fun j hj => by
    have := sumN_le (f := fun i => wnA n sz ro ch i v) (c := 75144747810816) j (fun i hi => wn_in hch b8 i v)
    omega
  have hpr := mulB (x := pts (lrA sz)) (y := ((rowsO n sz ro).length : Nat)) (X := 35831808) (Y := 315) (by omega) (by omega)
  have hpp : 0 < (rowsO n sz ro).length → 0 < pts (lrA sz) * ((rowsO n sz ro).length : Nat) := fun z => Int.mul_pos (by omega) (by omega)
  have key : ∀ (h9 : List mC), CSx (fun li we => li = 1 ∧ we = 1) h9 k n sz ch ro pl wi → (∀ j : Nat, (j < k ∨ k + 16 ≤ j) → h9[j]? = h[j]?) → (0 ≤ v ∧ v < n) → (rowsO n sz ro).length ≠ 0 → ∀ (j : Nat), j ≤ (rowsO n sz ro).length → ∀ (s x : Int) (u : mV), x = j → s = sumN (fun i => wnA n sz ro ch i v) j → Wp (d + 14) mX3_mean 38 [mR k, mI v, mI (bI up), mL s, mU, mI x] [] h9 (0, 0) (fun r9 h9 => r9 = some (mL (spMean n sz ro ch v up)) ∧ CS h9 k n sz ch ro pl wi ∧ ∀ j : Nat, (j < k ∨ k + 16 ≤ j) → h9[j]? = h[j]?) := by
    intro h9 hS2 hf20 hv hz
    obtain ⟨li, we, od, tsz, tpl, twi, tod, ln, rw, rs, lo, hU, hvr, hli, hwe, hlr, hlw, hli1⟩ := id hS2
    obtain ⟨hln, hrw⟩ := hlr hli1.1
    have hwt := hlw hli1.1 hli1.2
    obtain ⟨hC, hR, hB, hT, hL, hp⟩ := id hU
    obtain ⟨c0, c1⟩ := id hC
    obtain ⟨r0, r1, r2, r3, r4, r5⟩ := id hR
    obtain ⟨b0, b1, b2, b3, b4, b5, b6, b7, b8⟩ := id hB
    obtain ⟨t0, t1, t2, t3, t4, t5, t6, t7, t8⟩ := id hT
    obtain ⟨a0, a1, a2, a3, a4, a5, a6, a7, a8, a9⟩ := id hL
    refine loop_up _ _ ?_ ?_
    · intro s x u hx hs
      have hs2 := hsum _ hrl
      rw [← hs] at hs2
      refine wp_il5 (q := 40) dX3_mean_38 rfl (wp_al0 (q := 41) dX3_mean_40 rfl (wp_getf (q := 44) dX3_mean_41 rfl f19 c0 c1 rfl (fun z => nomatch z) (wp_getf (q := 47) dX3_mean_44 rfl f12 a0 a1 rfl (fun z => nomatch z) (wp_icmp_ge (t := 69) (q := 50) dX3_mean_47 rfl rfl (fun c47 => ?_) (fun c47 => ?_)))))
      · refine wp_ll3 (q := 70) dX3_mean_69 rfl (wp_al0 (q := 71) dX3_mean_70 rfl (wp_getf (q := 74) dX3_mean_71 rfl f17 c0 c1 rfl (fun z => nomatch z) (wp_v0I (q := 77) dX3_mean_74 rfl q65 (Nat.le_of_ble_eq_true rfl) rfl b0 b1 rfl rfl ((ct_lastRound 0 hB).up (by omega)) (wp_s1I (q := 80) dX3_mean_77 rfl q67 (Nat.le_of_ble_eq_true rfl) rfl rfl rfl ((ct_partsOf 0 hp).up (by omega)) (wp_al0 (q := 81) dX3_mean_80 rfl (wp_getf (q := 84) dX3_mean_81 rfl f19 c0 c1 rfl (fun z => nomatch z) (wp_getf (q := 87) dX3_mean_84 rfl f12 a0 a1 rfl (fun z => nomatch z) (wp_i2l (q := 88) dX3_mean_87 rfl ?_))))))))
        rw [hln]
        refine wp_lmul (q := 89) dX3_mean_88 rfl (by omega) (by omega) (wp_il2 (q := 90) dX3_mean_89 rfl (wp_s3I (q := 93) dX3_mean_90 rfl q68 (Nat.le_of_ble_eq_true rfl) rfl rfl rfl ((ct_fraction 0 (by omega) (by omega) (hpp (by omega)) (by omega)).up (by omega)) (wp_lret dX3_mean_93 rfl ?_)))
        exact ⟨rJ (by unfold spMean; rw [if_neg (fun z => z hv), if_neg hz, hs]), hS2.weak, hf20⟩
      · exfalso; omega
    · intro j hj ih s x u hx hs
      have hs2 := hsum j (by omega)
      have hs3 := hsum (j + 1) (by omega)
      have e1 : sumN (fun i => wnA n sz ro ch i v) (j + 1) = sumN (fun i => wnA n sz ro ch i v) j + wnA n sz ro ch j v := rfl
      rw [← hx, ← hs] at e1
      refine wp_il5 (q := 40) dX3_mean_38 rfl (wp_al0 (q := 41) dX3_mean_40 rfl (wp_getf (q := 44) dX3_mean_41 rfl f19 c0 c1 rfl (fun z => nomatch z) (wp_getf (q := 47) dX3_mean_44 rfl f12 a0 a1 rfl (fun z => nomatch z) (wp_icmp_ge (t := 69) (q := 50) dX3_mean_47 rfl rfl (fun c47 => ?_) (fun c47 => ?_)))))
      · exfalso; omega
      · refine wp_ll3 (q := 51) dX3_mean_50 rfl (wp_al0 (q := 52) dX3_mean_51 rfl (wp_getf (q := 55) dX3_mean_52 rfl f19 c0 c1 rfl (fun z => nomatch z) (wp_il5 (q := 57) dX3_mean_55 rfl (wp_il1 (q := 58) dX3_mean_57 rfl (wp_v2I (q := 61) dX3_mean_58 rfl q108 (Nat.le_of_ble_eq_true rfl) rfl a0 a1 rfl rfl (by have z := (ct_LoddsOf 0 hL (i := x) (x := v) (by omega) (by omega) (by omega) (by omega)).up (D := d + 13) (by omega); rw [lo_wn hn b8 hln hrw hwt (by omega) (by omega) (by omega) (by omega)] at z; exact z) (wp_ladd (q := 62) dX3_mean_61 rfl (by omega) (by omega) (wp_ls3 (q := 63) dX3_mean_62 rfl rfl (wp_ii5 (q := 66) dX3_mean_63 rfl rfl (by omega) (by omega) (wp_goto (q := 38) dX3_mean_66 rfl ?_)))))))))
        exact ih _ _ mU (by omega) e1.symm
  show Wp _ mX3_mean 0 [mR k, mI v, mI (bI up), mU, mU, mU] [] h (0, 0) _
  refine wp_al0 (q := 1) dX3_mean_0 rfl (wp_getf (q := 4) dX3_mean_1 rfl f16 c0 c1 rfl (fun z => nomatch z) (wp_il1 (q := 5) dX3_mean_4 rfl (wp_v1I (q := 8) dX3_mean_5 rfl q14 (Nat.le_of_ble_eq_true rfl) rfl r0 r1 rfl rfl ((ct_Rhas 0 hR).up (by omega)) (wp_ifb_ne (t := 15) (q := 11) dX3_mean_8 rfl rfl (fun c8 => ?_) (fun c8 => ?_)))))
  · refine wp_al0 (q := 16) dX3_mean_15 rfl (wp_v0 (q := 19) dX3_mean_16 rfl q101 (Nat.le_of_ble_eq_true rfl) rfl c0 c1 rfl rfl (cs_weighList d hS hch hn) (fun r9 h9 e9 => ?_))
    obtain ⟨rfl, hS2, hf20⟩ := e9
    obtain ⟨li, we, od, tsz, tpl, twi, tod, ln, rw, rs, lo, hU, hvr, hli, hwe, hlr, hlw, hli1⟩ := id hS2
    obtain ⟨hln, hrw⟩ := hlr hli1.1
    obtain ⟨hC, hR, hB, hT, hL, hp⟩ := id hU
    obtain ⟨c0, c1⟩ := id hC
    obtain ⟨r0, r1, r2, r3, r4, r5⟩ := id hR
    obtain ⟨b0, b1, b2, b3, b4, b5, b6, b7, b8⟩ := id hB
    obtain ⟨t0, t1, t2, t3, t4, t5, t6, t7, t8⟩ := id hT
    obtain ⟨a0, a1, a2, a3, a4, a5, a6, a7, a8, a9⟩ := id hL
    have hwt := hlw hli1.1 hli1.2
    show Wp _ _ _ _ [] _ _ _
    refine wp_al0 (q := 20) dX3_mean_19 rfl (wp_getf (q := 23) dX3_mean_20 rfl f19 c0 c1 rfl (fun z => nomatch z) (wp_getf (q := 26) dX3_mean_23 rfl f12 a0 a1 rfl (fun z => nomatch z) (wp_if_ne (t := 33) (q := 29) dX3_mean_26 rfl rfl (fun c26 => ?_) (fun c26 => ?_))))
    · refine wp_lc0 (q := 34) dX3_mean_33 rfl (wp_ls3 (q := 35) dX3_mean_34 rfl rfl (wp_ic (q := 36) dX3_mean_35 rfl (by decide) (by decide) (wp_is5 (q := 38) dX3_mean_36 rfl rfl ?_)))
      exact key h9 hS2 hf20 c8 (by omega) 0 (Nat.zero_le _) 0 0 mU rfl rfl
    · refine wp_ldl (-3) (q := 32) dX3_mean_29 rfl l3 (by decide) (by decide) (wp_lret dX3_mean_32 rfl ?_)
      exact ⟨rJ (by unfold spMean; rw [if_neg (fun z => z c8), if_pos (by omega)]), hS2.weak, hf20⟩
  · refine wp_ldl (-1) (q := 14) dX3_mean_11 rfl l1 (by decide) (by decide) (wp_lret dX3_mean_14 rfl ?_)
    exact ⟨rJ (by unfold spMean; rw [if_pos c8]), hS, fun _ _ => rfl⟩
/-- the best so far, and its odds -/
def bsF (f : Int → Int) (least : Prop) [Decidable least] : Nat → Int × Int
  | 0 => (-9, 0)
  | j + 1 => if (bsF f least j).1 = -9 ∨ ((least ∧ f j < (bsF f least j).2) ∨ (¬ least ∧ (bsF f least j).2 < f j)) then ((j : Int), f j) else bsF f least j
theorem bsF_in (f : Int → Int) (least : Prop) [Decidable least] : ∀ j : Nat, -9 ≤ (bsF f least j).1 ∧ (bsF f least j).1 < j
  | 0 => ⟨by simp [bsF], by simp [bsF]⟩
  | j + 1 => by
    have ih := bsF_in f least j
    have hc : ∀ (c : Prop) [Decidable c], -9 ≤ (if c then ((j : Int), f j) else bsF f least j).1 ∧ (if c then ((j : Int), f j) else bsF f least j).1 < ((j + 1 : Nat) : Int) := fun c _ => by
      by_cases e : c
      · rw [if_pos e]; exact ⟨by omega, by show (j : Int) < _; omega⟩
      · rw [if_neg e]; omega
    exact hc _
theorem bs_n1 {a b w : Int} {L : Prop} [Decidable L] {α : Type} {X Y : α} (h1 : ¬ a = -9) (h2 : L) (h3 : b ≤ w) : (if a = -9 ∨ ((L ∧ w < b) ∨ (¬ L ∧ b < w)) then X else Y) = Y := if_neg (fun z => z.elim h1 (fun z => z.elim (fun z => by omega) (fun z => z.1 h2)))
theorem bs_n2 {a b w : Int} {L : Prop} [Decidable L] {α : Type} {X Y : α} (h1 : ¬ a = -9) (h2 : ¬ L) (h3 : w ≤ b) : (if a = -9 ∨ ((L ∧ w < b) ∨ (¬ L ∧ b < w)) then X else Y) = Y := if_neg (fun z => z.elim h1 (fun z => z.elim (fun z => h2 z.1) (fun z => by omega)))
def spBest (n sz : Nat) (ro ch : List Int) (v : Int) (least : Prop) [Decidable least] : Int := if ¬ (0 ≤ v ∧ v < n) then -1 else (bsF (fun i => wnA n sz ro ch i v) least (rowsO n sz ro).length).1
theorem cs_best (d : Nat) {h : List mC} {k n sz : Nat} {ch ro pl wi : List Int} (hS : CS h k n sz ch ro pl wi) (hch : chB ch) (hn : n ≤ 8) {v : Int} {least : Prop} [Decidable least] : Ct (d + 14) mX3_best [mR k, mI v, mI (bI least)] h (fun r9 h9 => r9 = some (mI (spBest n sz ro ch v least)) ∧ CS h9 k n sz ch ro pl wi ∧ ∀ j : Nat, (j < k ∨ k + 16 ≤ j) → h9[j]? = h[j]?) := by
  obtain ⟨li, we, od, tsz, tpl, twi, tod, ln, rw, rs, lo, hU, hvr, hli, hwe, hlr, hlw, hf0⟩ := id hS
  obtain ⟨hC, hR, hB, hT, hL, hp⟩ := id hU
  obtain ⟨c0, c1⟩ := id hC
  obtain ⟨r0, r1, r2, r3, r4, r5⟩ := id hR
  obtain ⟨b0, b1, b2, b3, b4, b5, b6, b7, b8⟩ := id hB
  obtain ⟨t0, t1, t2, t3, t4, t5, t6, t7, t8⟩ := id hT
  obtain ⟨a0, a1, a2, a3, a4, a5, a6, a7, a8, a9⟩ := id hL
  have hrl := rowsO_le n sz ro
  have key : ∀ (h9 : List mC), CSx (fun li we => li = 1 ∧ we = 1) h9 k n sz ch ro pl wi → (∀ j : Nat, (j < k ∨ k + 16 ≤ j) → h9[j]? = h[j]?) → (0 ≤ v ∧ v < n) → ∀ (j : Nat), j ≤ (rowsO n sz ro).length → ∀ (a b x : Int) (u w : mV), x = j → (a, b) = bsF (fun i => wnA n sz ro ch i v) least j → Wp (d + 14) mX3_best 26 [mR k, mI v, mI (bI least), mI a, mL b, mU, mI x, u, w] [] h9 (0, 0) (fun r9 h9 => r9 = some (mI (spBest n sz ro ch v least)) ∧ CS h9 k n sz ch ro pl wi ∧ ∀ j : Nat, (j < k ∨ k + 16 ≤ j) → h9[j]? = h[j]?) := by
    intro h9 hS2 hf20 hv
    obtain ⟨li, we, od, tsz, tpl, twi, tod, ln, rw, rs, lo, hU, hvr, hli, hwe, hlr, hlw, hli1⟩ := id hS2
    obtain ⟨hln, hrw⟩ := hlr hli1.1
    have hwt := hlw hli1.1 hli1.2
    obtain ⟨hC, hR, hB, hT, hL, hp⟩ := id hU
    obtain ⟨c0, c1⟩ := id hC
    obtain ⟨r0, r1, r2, r3, r4, r5⟩ := id hR
    obtain ⟨b0, b1, b2, b3, b4, b5, b6, b7, b8⟩ := id hB
    obtain ⟨t0, t1, t2, t3, t4, t5, t6, t7, t8⟩ := id hT
    obtain ⟨a0, a1, a2, a3, a4, a5, a6, a7, a8, a9⟩ := id hL
    refine loop_up _ _ ?_ ?_
    · intro a b x u w hx hs
      refine wp_il6 (q := 28) dX3_best_26 rfl (wp_al0 (q := 29) dX3_best_28 rfl (wp_getf (q := 32) dX3_best_29 rfl f19 c0 c1 rfl (fun z => nomatch z) (wp_getf (q := 35) dX3_best_32 rfl f12 a0 a1 rfl (fun z => nomatch z) (wp_icmp_ge (t := 92) (q := 38) dX3_best_35 rfl rfl (fun c35 => ?_) (fun c35 => ?_)))))
      · refine wp_il3 (q := 93) dX3_best_92 rfl (wp_iret dX3_best_93 rfl ?_)
        exact ⟨rI (by unfold spBest; rw [if_neg (fun z => z hv), ← hs]), hS2.weak, hf20⟩
      · exfalso; omega
    · intro j hj ih a b x u w hx hs
      have e1 : bsF (fun i => wnA n sz ro ch i v) least (j + 1) = if a = -9 ∨ ((least ∧ wnA n sz ro ch x v < b) ∨ (¬ least ∧ b < wnA n sz ro ch x v)) then (x, wnA n sz ro ch x v) else (a, b) := by
        show (if (bsF (fun i => wnA n sz ro ch i v) least j).1 = -9 ∨ ((least ∧ wnA n sz ro ch j v < (bsF (fun i => wnA n sz ro ch i v) least j).2) ∨ (¬ least ∧ (bsF (fun i => wnA n sz ro ch i v) least j).2 < wnA n sz ro ch j v)) then ((j : Int), wnA n sz ro ch j v) else bsF (fun i => wnA n sz ro ch i v) least j) = _
        rw [← hs, hx]
      refine wp_il6 (q := 28) dX3_best_26 rfl (wp_al0 (q := 29) dX3_best_28 rfl (wp_getf (q := 32) dX3_best_29 rfl f19 c0 c1 rfl (fun z => nomatch z) (wp_getf (q := 35) dX3_best_32 rfl f12 a0 a1 rfl (fun z => nomatch z) (wp_icmp_ge (t := 92) (q := 38) dX3_best_35 rfl rfl (fun c35 => ?_) (fun c35 => ?_)))))
      · exfalso; omega
      · refine wp_al0 (q := 39) dX3_best_38 rfl (wp_getf (q := 42) dX3_best_39 rfl f19 c0 c1 rfl (fun z => nomatch z) (wp_il6 (q := 44) dX3_best_42 rfl (wp_il1 (q := 45) dX3_best_44 rfl (wp_v2I (q := 48) dX3_best_45 rfl q108 (Nat.le_of_ble_eq_true rfl) rfl a0 a1 rfl rfl (by have z := (ct_LoddsOf 0 hL (i := x) (x := v) (by omega) (by omega) (by omega) (by omega)).up (D := d + 13) (by omega); rw [lo_wn hn b8 hln hrw hwt (by omega) (by omega) (by omega) (by omega)] at z; exact z) (wp_ls7 (q := 50) dX3_best_48 rfl rfl (wp_il3 (q := 51) dX3_best_50 rfl (wp_bi (q := 53) dX3_best_51 rfl (by decide) (by decide) (wp_icmp_eq (t := 79) (q := 56) dX3_best_53 rfl rfl (fun c53 => ?_) (fun c53 => ?_)))))))))
        · refine wp_il6 (q := 81) dX3_best_79 rfl (wp_is3 (q := 82) dX3_best_81 rfl rfl (wp_ll7 (q := 84) dX3_best_82 rfl (wp_ls4 (q := 86) dX3_best_84 rfl rfl (wp_ii6 (q := 89) dX3_best_86 rfl rfl (by omega) (by omega) (wp_goto (q := 26) dX3_best_89 rfl ?_)))))
          refine ih _ _ _ _ _ (by omega) ?_
          rw [e1]
          first
            | rw [if_pos (Or.inl c53)]
            | rw [if_pos (Or.inr (Or.inl (And.intro c57 c65)))]
            | rw [if_pos (Or.inr (Or.inr (And.intro c57 c76)))]
            | rw [bs_n1 c53 c57 c65]
            | rw [bs_n2 c53 c57 c76]
        · refine wp_il2 (q := 57) dX3_best_56 rfl (wp_ifb_eq (t := 71) (q := 60) dX3_best_57 rfl rfl (fun c57 => ?_) (fun c57 => ?_))
          · refine wp_ll7 (q := 73) dX3_best_71 rfl (wp_ll4 (q := 75) dX3_best_73 rfl (wp_lcmp_le (q1 := 76) (t := 86) (q := 79) dX3_best_75 rfl dX3_best_76 rfl rfl (fun c76 => ?_) (fun c76 => ?_)))
            · refine wp_ii6 (q := 89) dX3_best_86 rfl rfl (by omega) (by omega) (wp_goto (q := 26) dX3_best_89 rfl ?_)
              refine ih _ _ _ _ _ (by omega) ?_
              rw [e1]
              first
                | rw [if_pos (Or.inl c53)]
                | rw [if_pos (Or.inr (Or.inl (And.intro c57 c65)))]
                | rw [if_pos (Or.inr (Or.inr (And.intro c57 c76)))]
                | rw [bs_n1 c53 c57 c65]
                | rw [bs_n2 c53 c57 c76]
            · refine wp_il6 (q := 81) dX3_best_79 rfl (wp_is3 (q := 82) dX3_best_81 rfl rfl (wp_ll7 (q := 84) dX3_best_82 rfl (wp_ls4 (q := 86) dX3_best_84 rfl rfl (wp_ii6 (q := 89) dX3_best_86 rfl rfl (by omega) (by omega) (wp_goto (q := 26) dX3_best_89 rfl ?_)))))
              refine ih _ _ _ _ _ (by omega) ?_
              rw [e1]
              first
                | rw [if_pos (Or.inl c53)]
                | rw [if_pos (Or.inr (Or.inl (And.intro c57 c65)))]
                | rw [if_pos (Or.inr (Or.inr (And.intro c57 c76)))]
                | rw [bs_n1 c53 c57 c65]
                | rw [bs_n2 c53 c57 c76]
          · refine wp_ll7 (q := 62) dX3_best_60 rfl (wp_ll4 (q := 64) dX3_best_62 rfl (wp_lcmp_ge (q1 := 65) (t := 86) (q := 68) dX3_best_64 rfl dX3_best_65 rfl rfl (fun c65 => ?_) (fun c65 => ?_)))
            · refine wp_ii6 (q := 89) dX3_best_86 rfl rfl (by omega) (by omega) (wp_goto (q := 26) dX3_best_89 rfl ?_)
              refine ih _ _ _ _ _ (by omega) ?_
              rw [e1]
              first
                | rw [if_pos (Or.inl c53)]
                | rw [if_pos (Or.inr (Or.inl (And.intro c57 c65)))]
                | rw [if_pos (Or.inr (Or.inr (And.intro c57 c76)))]
                | rw [bs_n1 c53 c57 c65]
                | rw [bs_n2 c53 c57 c76]
            · refine wp_goto (q := 79) dX3_best_68 rfl (wp_il6 (q := 81) dX3_best_79 rfl (wp_is3 (q := 82) dX3_best_81 rfl rfl (wp_ll7 (q := 84) dX3_best_82 rfl (wp_ls4 (q := 86) dX3_best_84 rfl rfl (wp_ii6 (q := 89) dX3_best_86 rfl rfl (by omega) (by omega) (wp_goto (q := 26) dX3_best_89 rfl ?_))))))
              refine ih _ _ _ _ _ (by omega) ?_
              rw [e1]
              first
                | rw [if_pos (Or.inl c53)]
                | rw [if_pos (Or.inr (Or.inl (And.intro c57 c65)))]
                | rw [if_pos (Or.inr (Or.inr (And.intro c57 c76)))]
                | rw [bs_n1 c53 c57 c65]
                | rw [bs_n2 c53 c57 c76]
  show Wp _ mX3_best 0 [mR k, mI v, mI (bI least), mU, mU, mU, mU, mU, mU] [] h (0, 0) _
  refine wp_al0 (q := 1) dX3_best_0 rfl (wp_getf (q := 4) dX3_best_1 rfl f16 c0 c1 rfl (fun z => nomatch z) (wp_il1 (q := 5) dX3_best_4 rfl (wp_v1I (q := 8) dX3_best_5 rfl q14 (Nat.le_of_ble_eq_true rfl) rfl r0 r1 rfl rfl ((ct_Rhas 0 hR).up (by omega)) (wp_ifb_ne (t := 13) (q := 11) dX3_best_8 rfl rfl (fun c8 => ?_) (fun c8 => ?_)))))
  · refine wp_al0 (q := 14) dX3_best_13 rfl (wp_v0 (q := 17) dX3_best_14 rfl q101 (Nat.le_of_ble_eq_true rfl) rfl c0 c1 rfl rfl (cs_weighList d hS hch hn) (fun r9 h9 e9 => ?_))
    obtain ⟨rfl, hS2, hf20⟩ := e9
    obtain ⟨li, we, od, tsz, tpl, twi, tod, ln, rw, rs, lo, hU, hvr, hli, hwe, hlr, hlw, hli1⟩ := id hS2
    obtain ⟨hln, hrw⟩ := hlr hli1.1
    obtain ⟨hC, hR, hB, hT, hL, hp⟩ := id hU
    obtain ⟨c0, c1⟩ := id hC
    obtain ⟨r0, r1, r2, r3, r4, r5⟩ := id hR
    obtain ⟨b0, b1, b2, b3, b4, b5, b6, b7, b8⟩ := id hB
    obtain ⟨t0, t1, t2, t3, t4, t5, t6, t7, t8⟩ := id hT
    obtain ⟨a0, a1, a2, a3, a4, a5, a6, a7, a8, a9⟩ := id hL
    have hwt := hlw hli1.1 hli1.2
    show Wp _ _ _ _ [] _ _ _
    refine wp_bi (q := 19) dX3_best_17 rfl (by decide) (by decide) (wp_is3 (q := 20) dX3_best_19 rfl rfl (wp_lc0 (q := 21) dX3_best_20 rfl (wp_ls4 (q := 23) dX3_best_21 rfl rfl (wp_ic (q := 24) dX3_best_23 rfl (by decide) (by decide) (wp_is6 (q := 26) dX3_best_24 rfl rfl ?_)))))
    exact key h9 hS2 hf20 c8 0 (Nat.zero_le _) (-9) 0 0 mU mU rfl rfl
  · refine wp_ic (q := 12) dX3_best_11 rfl (by decide) (by decide) (wp_iret dX3_best_12 rfl ?_)
    exact ⟨rI (by unfold spBest; rw [if_pos c8]), hS, fun _ _ => rfl⟩
def plD (n sz : Nat) (ro : List Int) (i v : Int) : Int := fndF (drA (rowsO n sz ro) i) v 8 8
def spFirst (n sz : Nat) (ro : List Int) (x y r : Int) : Int := if ¬ ((0 ≤ x ∧ x < n) ∧ (0 ≤ y ∧ y < n)) then -1 else if r < 1 ∨ lrA sz < r then -2 else if x = y then -3 else sumN (fun i => bI (mrA (plD n sz ro i x) (plD n sz ro i y) = r)) (rowsO n sz ro).length
theorem plD_in {n sz : Nat} {ro : List Int} (hn : n ≤ 8) (h8 : sz ≤ 8) {i v : Int} (i0 : 0 ≤ i) (i1 : i < ((rowsO n sz ro).length : Nat)) (v0 : 0 ≤ v) (v1 : v < n) : 0 ≤ plD n sz ro i v ∧ plD n sz ro i v < 8 := by
  obtain ⟨g1, g2, g3, g4⟩ := drG (ro := ro) hn h8 i0 i1
  obtain ⟨x, x0, x1, hx⟩ := g4 v v0 v1
  have h1 := fndF_in (f := drA (rowsO n sz ro) i) (v := v) (n := 8) 8 (Nat.le_refl _)
  unfold plD
  by_cases e : fndF (drA (rowsO n sz ro) i) v 8 8 = -1
  · have := fndF_no (f := drA (rowsO n sz ro) i) (v := v) (n := 8) 8 (Nat.le_refl _) e x.toNat (by omega) (by omega)
    rw [show ((x.toNat : Nat) : Int) = x by omega] at this
    exact absurd hx this
  · omega
theorem cs_first (d : Nat) {h : List mC} {k n sz : Nat} {ch ro pl wi : List Int} (hS : CS h k n sz ch ro pl wi) (hn : n ≤ 8) {x y r : Int} : Ct (d + 13) mX3_first [mR k, mI x, mI y, mI r] h (fun r9 h9 => r9 = some (mI (spFirst n sz ro x y r)) ∧ CS h9 k n sz ch ro pl wi ∧ ∀ j : Nat, (j < k ∨ k + 16 ≤ j) → h9[j]? = h[j]?) := by
  obtain ⟨li, we, od, tsz, tpl, twi, tod, ln, rw, rs, lo, hU, hvr, hli, hwe, hlr, hlw, hf0⟩ := id hS
  obtain ⟨hC, hR, hB, hT, hL, hp⟩ := id hU
  obtain ⟨c0, c1⟩ := id hC
  obtain ⟨r0, r1, r2, r3, r4, r5⟩ := id hR
  obtain ⟨b0, b1, b2, b3, b4, b5, b6, b7, b8⟩ := id hB
  obtain ⟨t0, t1, t2, t3, t4, t5, t6, t7, t8⟩ := id hT
  obtain ⟨a0, a1, a2, a3, a4, a5, a6, a7, a8, a9⟩ := id hL
  have hrl := rowsO_le n sz ro
  have key : ∀ (h9 : List mC), CSx (fun li we => li = 1) h9 k n sz ch ro pl wi → (∀ j : Nat, (j < k ∨ k + 16 ≤ j) → h9[j]? = h[j]?) → (0 ≤ x ∧ x < n) → (0 ≤ y ∧ y < n) → ¬ (r < 1 ∨ lrA sz < r) → x ≠ y → ∀ (j : Nat), j ≤ (rowsO n sz ro).length → ∀ (c z : Int), z = j → c = sumN (fun i => bI (mrA (plD n sz ro i x) (plD n sz ro i y) = r)) j → Wp (d + 13) mX3_first 61 [mR k, mI x, mI y, mI r, mI c, mI z] [] h9 (0, 0) (fun r9 h9 => r9 = some (mI (spFirst n sz ro x y r)) ∧ CS h9 k n sz ch ro pl wi ∧ ∀ j : Nat, (j < k ∨ k + 16 ≤ j) → h9[j]? = h[j]?) := by
    intro h9 hS2 hf20 hx hy hr hxy
    obtain ⟨li, we, od, tsz, tpl, twi, tod, ln, rw, rs, lo, hU, hvr, hli, hwe, hlr, hlw, hli1⟩ := id hS2
    obtain ⟨hln, hrw⟩ := hlr hli1
    obtain ⟨hC, hR, hB, hT, hL, hp⟩ := id hU
    obtain ⟨c0, c1⟩ := id hC
    obtain ⟨r0, r1, r2, r3, r4, r5⟩ := id hR
    obtain ⟨b0, b1, b2, b3, b4, b5, b6, b7, b8⟩ := id hB
    obtain ⟨t0, t1, t2, t3, t4, t5, t6, t7, t8⟩ := id hT
    obtain ⟨a0, a1, a2, a3, a4, a5, a6, a7, a8, a9⟩ := id hL
    have epl : ∀ i v : Int, 0 ≤ i → i < ln → fndF (lpA ln rs i) v 8 8 = plD n sz ro i v := fun i v i0 i1 => fndF_congr (fun j hj => lp_dr hln hrw i0 i1 (by omega) (by omega)) 8 (Nat.le_refl _)
    refine loop_up _ _ ?_ ?_
    · intro c z hz hs
      refine wp_il5 (q := 63) dX3_first_61 rfl (wp_al0 (q := 64) dX3_first_63 rfl (wp_getf (q := 67) dX3_first_64 rfl f19 c0 c1 rfl (fun z => nomatch z) (wp_getf (q := 70) dX3_first_67 rfl f12 a0 a1 rfl (fun z => nomatch z) (wp_icmp_ge (t := 109) (q := 73) dX3_first_70 rfl rfl (fun c70 => ?_) (fun c70 => ?_)))))
      · refine wp_il4 (q := 111) dX3_first_109 rfl (wp_iret dX3_first_111 rfl ?_)
        exact ⟨rI (by unfold spFirst; rw [if_neg (by omega), if_neg hr, if_neg hxy, hs]), hS2.weak, hf20⟩
      · exfalso; omega
    · intro j hj ih c z hz hs
      have bo := sumB_in (p := fun i : Nat => mrA (plD n sz ro i x) (plD n sz ro i y) = r) j
      have e1 : sumN (fun i => bI (mrA (plD n sz ro i x) (plD n sz ro i y) = r)) (j + 1) = sumN (fun i => bI (mrA (plD n sz ro i x) (plD n sz ro i y) = r)) j + bI (mrA (plD n sz ro j x) (plD n sz ro j y) = r) := rfl
      rw [← hz, ← hs] at e1
      rw [← hs] at bo
      have q1 := plD_in (ro := ro) hn (by omega : sz ≤ 8) (i := z) (by omega) (by omega) hx.1 hx.2
      have q2 := plD_in (ro := ro) hn (by omega : sz ≤ 8) (i := z) (by omega) (by omega) hy.1 hy.2
      refine wp_il5 (q := 63) dX3_first_61 rfl (wp_al0 (q := 64) dX3_first_63 rfl (wp_getf (q := 67) dX3_first_64 rfl f19 c0 c1 rfl (fun z => nomatch z) (wp_getf (q := 70) dX3_first_67 rfl f12 a0 a1 rfl (fun z => nomatch z) (wp_icmp_ge (t := 109) (q := 73) dX3_first_70 rfl rfl (fun c70 => ?_) (fun c70 => ?_)))))
      · exfalso; omega
      · refine wp_al0 (q := 74) dX3_first_73 rfl (wp_getf (q := 77) dX3_first_74 rfl f19 c0 c1 rfl (fun z => nomatch z) (wp_il5 (q := 79) dX3_first_77 rfl (wp_il1 (q := 80) dX3_first_79 rfl (wp_v2I (q := 83) dX3_first_80 rfl q112 (Nat.le_of_ble_eq_true rfl) rfl a0 a1 rfl rfl (by have z2 := (ct_LplaceOf 0 hL (i := z) (v := x) (by omega) (by omega)).up (D := d + 12) (by omega); rw [epl z x (by omega) (by omega)] at z2; exact z2) (wp_al0 (q := 84) dX3_first_83 rfl (wp_getf (q := 87) dX3_first_84 rfl f19 c0 c1 rfl (fun z => nomatch z) (wp_il5 (q := 89) dX3_first_87 rfl (wp_il2 (q := 90) dX3_first_89 rfl (wp_v2I (q := 93) dX3_first_90 rfl q112 (Nat.le_of_ble_eq_true rfl) rfl a0 a1 rfl rfl (by have z2 := (ct_LplaceOf 0 hL (i := z) (v := y) (by omega) (by omega)).up (D := d + 12) (by omega); rw [epl z y (by omega) (by omega)] at z2; exact z2) (wp_s2I (q := 96) dX3_first_93 rfl q71 (Nat.le_of_ble_eq_true rfl) rfl rfl rfl ((ct_meetingRound 0 q1.1 q1.2 q2.1 q2.2).up (by omega)) (wp_il3 (q := 97) dX3_first_96 rfl (wp_icmp_ne (t := 103) (q := 100) dX3_first_97 rfl rfl (fun c97 => ?_) (fun c97 => ?_)))))))))))))
        · refine wp_ii5 (q := 106) dX3_first_103 rfl rfl (by omega) (by omega) (wp_goto (q := 61) dX3_first_106 rfl ?_)
          exact ih _ _ (by omega) (by rw [e1]; first | rw [bI_t c97] | (rw [bI_f c97]; omega))
        · refine wp_ii4 (q := 103) dX3_first_100 rfl rfl (by omega) (by omega) (wp_ii5 (q := 106) dX3_first_103 rfl rfl (by omega) (by omega) (wp_goto (q := 61) dX3_first_106 rfl ?_))
          exact ih _ _ (by omega) (by rw [e1]; first | rw [bI_t c97] | (rw [bI_f c97]; omega))
  show Wp _ mX3_first 0 [mR k, mI x, mI y, mI r, mU, mU] [] h (0, 0) _
  refine wp_al0 (q := 1) dX3_first_0 rfl (wp_getf (q := 4) dX3_first_1 rfl f16 c0 c1 rfl (fun z => nomatch z) (wp_il1 (q := 5) dX3_first_4 rfl (wp_v1I (q := 8) dX3_first_5 rfl q14 (Nat.le_of_ble_eq_true rfl) rfl r0 r1 rfl rfl ((ct_Rhas 0 hR).up (by omega)) (wp_ifb_eq (t := 22) (q := 11) dX3_first_8 rfl rfl (fun c8 => ?_) (fun c8 => ?_)))))
  · refine wp_ic (q := 23) dX3_first_22 rfl (by decide) (by decide) (wp_iret dX3_first_23 rfl ?_)
    refine ⟨rI ?_, hS, fun _ _ => rfl⟩
    unfold spFirst
    (repeat' split) <;> omega
  · refine wp_al0 (q := 12) dX3_first_11 rfl (wp_getf (q := 15) dX3_first_12 rfl f16 c0 c1 rfl (fun z => nomatch z) (wp_il2 (q := 16) dX3_first_15 rfl (wp_v1I (q := 19) dX3_first_16 rfl q14 (Nat.le_of_ble_eq_true rfl) rfl r0 r1 rfl rfl ((ct_Rhas 0 hR).up (by omega)) (wp_ifb_ne (t := 24) (q := 22) dX3_first_19 rfl rfl (fun c19 => ?_) (fun c19 => ?_)))))
    · refine wp_il3 (q := 25) dX3_first_24 rfl (wp_ic (q := 26) dX3_first_25 rfl (by decide) (by decide) (wp_icmp_lt (t := 40) (q := 29) dX3_first_26 rfl rfl (fun c26 => ?_) (fun c26 => ?_)))
      · refine wp_bi (q := 42) dX3_first_40 rfl (by decide) (by decide) (wp_iret dX3_first_42 rfl ?_)
        refine ⟨rI ?_, hS, fun _ _ => rfl⟩
        unfold spFirst
        (repeat' split) <;> omega
      · refine wp_il3 (q := 30) dX3_first_29 rfl (wp_al0 (q := 31) dX3_first_30 rfl (wp_getf (q := 34) dX3_first_31 rfl f17 c0 c1 rfl (fun z => nomatch z) (wp_v0I (q := 37) dX3_first_34 rfl q65 (Nat.le_of_ble_eq_true rfl) rfl b0 b1 rfl rfl ((ct_lastRound 0 hB).up (by omega)) (wp_icmp_le (t := 43) (q := 40) dX3_first_37 rfl rfl (fun c37 => ?_) (fun c37 => ?_)))))
        · refine wp_il1 (q := 44) dX3_first_43 rfl (wp_il2 (q := 45) dX3_first_44 rfl (wp_icmp_ne (t := 51) (q := 48) dX3_first_45 rfl rfl (fun c45 => ?_) (fun c45 => ?_)))
          · refine wp_al0 (q := 52) dX3_first_51 rfl (wp_v0 (q := 55) dX3_first_52 rfl q75 (Nat.le_of_ble_eq_true rfl) rfl c0 c1 rfl rfl (cs_makeList d hS hn) (fun r9 h9 e9 => ?_))
            obtain ⟨rfl, hS2, hf20⟩ := e9
            obtain ⟨li, we, od, tsz, tpl, twi, tod, ln, rw, rs, lo, hU, hvr, hli, hwe, hlr, hlw, hli1⟩ := id hS2
            obtain ⟨hln, hrw⟩ := hlr hli1
            obtain ⟨hC, hR, hB, hT, hL, hp⟩ := id hU
            obtain ⟨c0, c1⟩ := id hC
            obtain ⟨r0, r1, r2, r3, r4, r5⟩ := id hR
            obtain ⟨b0, b1, b2, b3, b4, b5, b6, b7, b8⟩ := id hB
            obtain ⟨t0, t1, t2, t3, t4, t5, t6, t7, t8⟩ := id hT
            obtain ⟨a0, a1, a2, a3, a4, a5, a6, a7, a8, a9⟩ := id hL
            show Wp _ _ _ _ [] _ _ _
            refine wp_ic (q := 56) dX3_first_55 rfl (by decide) (by decide) (wp_is4 (q := 58) dX3_first_56 rfl rfl (wp_ic (q := 59) dX3_first_58 rfl (by decide) (by decide) (wp_is5 (q := 61) dX3_first_59 rfl rfl ?_)))
            exact key h9 hS2 hf20 c8 c19 (by omega) c45 0 (Nat.zero_le _) 0 0 rfl rfl
          · refine wp_bi (q := 50) dX3_first_48 rfl (by decide) (by decide) (wp_iret dX3_first_50 rfl ?_)
            refine ⟨rI ?_, hS, fun _ _ => rfl⟩
            unfold spFirst
            (repeat' split) <;> omega
        · refine wp_bi (q := 42) dX3_first_40 rfl (by decide) (by decide) (wp_iret dX3_first_42 rfl ?_)
          refine ⟨rI ?_, hS, fun _ _ => rfl⟩
          unfold spFirst
          (repeat' split) <;> omega
    · refine wp_ic (q := 23) dX3_first_22 rfl (by decide) (by decide) (wp_iret dX3_first_23 rfl ?_)
      refine ⟨rI ?_, hS, fun _ _ => rfl⟩
      unfold spFirst
      (repeat' split) <;> omega
