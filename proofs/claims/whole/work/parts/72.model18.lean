/-! the model: winsOf, wins, mean, best (rows laid by wip/whole) -/
/-- the model while draws are worked: listed; the whole of the final is known -/
def MSk (c : Prop) (h : List mC) (g n sz : Nat) (ch ro pl wi : List Int) : Prop := ∃ (wm lf rt ws rw pt wh on tw : List Int) (wo wt : Int) (dn : List Int), MU h g (n : Int) (sz : Int) ch ro pl wm lf rt ws rw pt wh on tw wo wt 1 ((rowsO n sz ro).length : Nat) dn ∧ WmO wi wm ∧ RwA (rowsO n sz ro) dn ∧ (c → gI wh ((sz : Int) - 2) = w12 n)
theorem MSk.weak {c : Prop} {h : List mC} {g n sz : Nat} {ch ro pl wi : List Int} (hS : MSk c h g n sz ch ro pl wi) : MS h g n sz ch ro pl wi := by
  obtain ⟨wm, lf, rt, ws, rw, pt, wh, on, tw, wo, wt, dn, hM, hwm, hrw, hk⟩ := hS
  exact ⟨wm, lf, rt, ws, rw, pt, wh, on, tw, wo, wt, 1, _, dn, hM, hwm, Or.inr rfl, fun _ => ⟨rfl, hrw⟩, trivial⟩
theorem MSk.imp {c c2 : Prop} {h : List mC} {g n sz : Nat} {ch ro pl wi : List Int} (hS : MSk c h g n sz ch ro pl wi) (hc : c2 → c) : MSk c2 h g n sz ch ro pl wi := by
  obtain ⟨wm, lf, rt, ws, rw, pt, wh, on, tw, wo, wt, dn, hM, hwm, hrw, hk⟩ := hS
  exact ⟨wm, lf, rt, ws, rw, pt, wh, on, tw, wo, wt, dn, hM, hwm, hrw, fun z => hk (hc z)⟩
theorem MSk_of {h : List mC} {g n sz : Nat} {ch ro pl wi : List Int} (hS : MSl h g n sz ch ro pl wi) : MSk False h g n sz ch ro pl wi := by
  obtain ⟨wm, lf, rt, ws, rw, pt, wh, on, tw, wo, wt, il, dr, dn, hM, hwm, hil, hdr, hil1⟩ := hS
  have hil2 : il = 1 := hil1
  subst hil2
  obtain ⟨rfl, hrw⟩ := hdr rfl
  exact ⟨wm, lf, rt, ws, rw, pt, wh, on, tw, wo, wt, dn, hM, hwm, hrw, fun z => z.elim⟩
theorem ms_winsOf (d : Nat) {h : List mC} {g n sz : Nat} {ch ro pl wi : List Int} {c : Prop} (hS : MSk c h g n sz ch ro pl wi) (hI : Inv n sz ch ro pl wi) {i v : Int} (i0 : 0 ≤ i) (i1 : i < ((rowsO n sz ro).length : Nat)) (v0 : 0 ≤ v) (v1 : v < n) : Ct (d + 4) mX4_winsOf [mR g, mI i, mI v] h (fun r9 h9 => (∃ P : Int, r9 = some (mL P) ∧ (0 ≤ P ∧ P ≤ 9618527719784448) ∧ P * pts (lrA sz) = wnA n sz ro ch i v * w12 n) ∧ MSk True h9 g n sz ch ro pl wi ∧ ∀ j : Nat, (j < g ∨ g + 14 ≤ j) → h9[j]? = h[j]?) := by
  obtain ⟨wm, lf, rt, ws, rw, pt, wh, on, tw, wo, wt, dn, hM, hwm, hrw, hk⟩ := id hS
  obtain ⟨m0, m1, mch, map, mpl, mwm, mlf, mrt, mws, mrw, mpt, mwh, mon, mtw, mdn, lch, lap, lpl, lwm, llf, lrt, lws, lrw, lpt, lwh, lon, ltw, ldn, m8⟩ := id hM
  have hrl := rowsO_le n sz ro
  have hn8 := hI.hn
  have key : ∀ j : Nat, j ≤ 8 → ∀ (h1 : List mC) (rw1 : List Int) (x : Int), x = j → MU h1 g (n : Int) (sz : Int) ch ro pl wm lf rt ws rw1 pt wh on tw wo wt 1 ((rowsO n sz ro).length : Nat) dn → (∀ y : Int, 0 ≤ y → y < x → gI rw1 y = drA (rowsO n sz ro) i y) → (∀ j : Nat, (j < g ∨ g + 14 ≤ j) → h1[j]? = h[j]?) → Wp (d + 4) mX4_winsOf 2 [mR g, mI i, mI v, mI x] [] h1 (0, 0) (fun r9 h9 => (∃ P : Int, r9 = some (mL P) ∧ (0 ≤ P ∧ P ≤ 9618527719784448) ∧ P * pts (lrA sz) = wnA n sz ro ch i v * w12 n) ∧ MSk True h9 g n sz ch ro pl wi ∧ ∀ j : Nat, (j < g ∨ g + 14 ≤ j) → h9[j]? = h[j]?) := by
    refine loop_up 8 _ ?_ ?_
    · intro h1 rw1 x hx hM hw hf
      obtain ⟨m0, m1, mch, map, mpl, mwm, mlf, mrt, mws, mrw, mpt, mwh, mon, mtw, mdn, lch, lap, lpl, lwm, llf, lrt, lws, lrw, lpt, lwh, lon, ltw, ldn, m8⟩ := id hM
      refine wp_il3 (q := 3) dX4_winsOf_2 rfl (wp_bi (q := 5) dX4_winsOf_3 rfl (by decide) (by decide) (wp_icmp_ge (t := 31) (q := 8) dX4_winsOf_5 rfl rfl (fun c5 => ?_) (fun c5 => ?_)))
      · refine wp_al0 (q := 32) dX4_winsOf_31 rfl (wp_ic (q := 33) dX4_winsOf_32 rfl (by decide) (by decide) (wp_v1 (q := 36) dX4_winsOf_33 rfl q148 (Nat.le_of_ble_eq_true rfl) rfl m0 m1 rfl rfl ((mt_work 0 hM hI.hch (dec := false)).up (by omega)) (fun r9 h9 e9 => ?_)))
        obtain ⟨rfl, ⟨pt, wh, on, tw, wo, wt, hM, hwk⟩, hf10⟩ := e9
        show Wp _ _ _ _ [] _ _ _
        obtain ⟨m0, m1, mch, map, mpl, mwm, mlf, mrt, mws, mrw, mpt, mwh, mon, mtw, mdn, lch, lap, lpl, lwm, llf, lrt, lws, lrw, lpt, lwh, lon, ltw, ldn, m8⟩ := id hM
        obtain ⟨d1, d2⟩ := wk_draw hI i0 i1 (fun x x0 x1 => hw x x0 (by omega)) hwk
        obtain ⟨d3, d4⟩ := d2 v v0 v1
        refine wp_al0 (q := 37) dX4_winsOf_36 rfl (wp_getf (q := 40) dX4_winsOf_37 rfl f32 m0 m1 rfl (fun z => nomatch z) (wp_bi (q := 42) dX4_winsOf_40 rfl (by decide) (by decide) (wp_al0 (q := 43) dX4_winsOf_42 rfl (wp_getf (q := 46) dX4_winsOf_43 rfl f23 m0 m1 rfl (fun z => nomatch z) (wp_ic (q := 47) dX4_winsOf_46 rfl (by decide) (by decide) (wp_isub (q := 48) dX4_winsOf_47 rfl (by omega) (by omega) (wp_imul (q := 49) dX4_winsOf_48 rfl (by omega) (by omega) (wp_il2 (q := 50) dX4_winsOf_49 rfl (wp_iadd (q := 51) dX4_winsOf_50 rfl (by omega) (by omega) (wp_laload (q := 52) dX4_winsOf_51 rfl mpt (by omega) (by omega) (wp_lret dX4_winsOf_52 rfl ?_)))))))))))
        exact ⟨⟨_, rfl, d3, d4⟩, ⟨wm, lf, rt, ws, _, pt, wh, on, tw, wo, wt, dn, hM, hwm, hrw, fun _ => d1⟩, fun j hj => (hf10 j hj).trans (hf j hj)⟩
      · exfalso; omega
    · intro j hj ih h1 rw1 x hx hM hw hf
      obtain ⟨m0, m1, mch, map, mpl, mwm, mlf, mrt, mws, mrw, mpt, mwh, mon, mtw, mdn, lch, lap, lpl, lwm, llf, lrt, lws, lrw, lpt, lwh, lon, ltw, ldn, m8⟩ := id hM
      have hdx := hrw.dn i0 i1 (x := x) (by omega) (by omega)
      have hdx2 : dn.getD (8 * i + x).toNat 0 = drA (rowsO n sz ro) i x := hdx
      refine wp_il3 (q := 3) dX4_winsOf_2 rfl (wp_bi (q := 5) dX4_winsOf_3 rfl (by decide) (by decide) (wp_icmp_ge (t := 31) (q := 8) dX4_winsOf_5 rfl rfl (fun c5 => ?_) (fun c5 => ?_)))
      · exfalso; omega
      · refine wp_al0 (q := 9) dX4_winsOf_8 rfl (wp_getf (q := 12) dX4_winsOf_9 rfl f31 m0 m1 rfl (fun z => nomatch z) (wp_il3 (q := 13) dX4_winsOf_12 rfl (wp_al0 (q := 14) dX4_winsOf_13 rfl (wp_getf (q := 17) dX4_winsOf_14 rfl f40 m0 m1 rfl (fun z => nomatch z) (wp_bi (q := 19) dX4_winsOf_17 rfl (by decide) (by decide) (wp_il1 (q := 20) dX4_winsOf_19 rfl (wp_imul (q := 21) dX4_winsOf_20 rfl (by omega) (by omega) (wp_il3 (q := 22) dX4_winsOf_21 rfl (wp_iadd (q := 23) dX4_winsOf_22 rfl (by omega) (by omega) (wp_iaload (q := 24) dX4_winsOf_23 rfl mdn (by omega) (by omega) ?_))))))))))
        rw [hdx2]
        refine wp_iastore (q := 25) dX4_winsOf_24 rfl (by omega) mrw (by omega) (by omega) (wp_ii3 (q := 28) dX4_winsOf_25 rfl rfl (by omega) (by omega) (wp_goto (q := 2) dX4_winsOf_28 rfl ?_))
        refine ih _ (sI rw1 x (drA (rowsO n sz ro) i x)) _ (by omega) (hM.sRw ((sI_len _ _ _).trans lrw)) (fun y y0 y1 => ?_) (fun j hj => by rw [fr_set (by omega)]; exact hf j hj)
        by_cases e : y = x
        · rw [e]; exact gI_eq (by omega) (by omega)
        · rw [gI_ne (by omega) y0 (by omega)]; exact hw y y0 (by omega)
  show Wp _ mX4_winsOf 0 [mR g, mI i, mI v, mU] [] h (0, 0) _
  refine wp_ic (q := 1) dX4_winsOf_0 rfl (by decide) (by decide) (wp_is3 (q := 2) dX4_winsOf_1 rfl rfl ?_)
  exact key 0 (Nat.zero_le _) h rw 0 rfl hM (fun y y0 y1 => by omega) (fun _ _ => rfl)
theorem ms_wins (d : Nat) {h : List mC} {g n sz : Nat} {ch ro pl wi : List Int} (hS : MS h g n sz ch ro pl wi) (hI : Inv n sz ch ro pl wi) {i v : Int} {up : Prop} [Decidable up] : Ct (d + 5) mX4_wins [mR g, mI i, mI v, mI (bI up)] h (fun r9 h9 => r9 = some (mL (spWins n sz ro ch i v up)) ∧ MS h9 g n sz ch ro pl wi ∧ ∀ j : Nat, (j < g ∨ g + 14 ≤ j) → h9[j]? = h[j]?) := by
  obtain ⟨wm, lf, rt, ws, rw, pt, wh, on, tw, wo, wt, il, dr, dn, hM, hwm, hil, hdr, hf0⟩ := id hS
  obtain ⟨m0, m1, mch, map, mpl, mwm, mlf, mrt, mws, mrw, mpt, mwh, mon, mtw, mdn, lch, lap, lpl, lwm, llf, lrt, lws, lrw, lpt, lwh, lon, ltw, ldn, m8⟩ := id hM
  have hrl := rowsO_le n sz ro
  have hn8 := hI.hn
  show Wp _ mX4_wins 0 [mR g, mI i, mI v, mI (bI up), mU, mU] [] h (0, 0) _
  refine wp_al0 (q := 1) dX4_wins_0 rfl (wp_il1 (q := 2) dX4_wins_1 rfl (wp_v1 (q := 5) dX4_wins_2 rfl q162 (Nat.le_of_ble_eq_true rfl) rfl m0 m1 rfl rfl ((ms_isDraw 0 hS hI).up (by omega)) (fun r9 h9 e9 => ?_)))
  obtain ⟨rfl, hS2, hf20⟩ := e9
  show Wp _ _ _ _ [mI _] _ _ _
  obtain ⟨wm, lf, rt, ws, rw, pt, wh, on, tw, wo, wt, il, dr, dn, hM, hwm, hil, hdr, hil1⟩ := id hS2
  obtain ⟨m0, m1, mch, map, mpl, mwm, mlf, mrt, mws, mrw, mpt, mwh, mon, mtw, mdn, lch, lap, lpl, lwm, llf, lrt, lws, lrw, lpt, lwh, lon, ltw, ldn, m8⟩ := id hM
  obtain ⟨hdl, hrw⟩ := hdr hil1
  refine wp_ifb_eq (t := 16) (q := 8) dX4_wins_5 rfl rfl (fun c5 => ?_) (fun c5 => ?_)
  · refine wp_ldl (-1) (q := 19) dX4_wins_16 rfl l11 (by decide) (by decide) (wp_lret dX4_wins_19 rfl ?_)
    exact ⟨rJ (by unfold spWins; rw [if_pos (by omega)]), MSx.weak (f := fun il => il = 1) hS2, hf20⟩
  · refine wp_al0 (q := 9) dX4_wins_8 rfl (wp_il2 (q := 10) dX4_wins_9 rfl (wp_v1I (q := 13) dX4_wins_10 rfl q124 (Nat.le_of_ble_eq_true rfl) rfl m0 m1 rfl rfl ((mt_isPlayer 0 hM (by have := hI.hn; omega)).up (by omega)) (wp_ifb_ne (t := 20) (q := 16) dX4_wins_13 rfl rfl (fun c13 => ?_) (fun c13 => ?_))))
    · refine wp_al0 (q := 21) dX4_wins_20 rfl (wp_il1 (q := 22) dX4_wins_21 rfl (wp_il2 (q := 23) dX4_wins_22 rfl (wp_v2 (q := 26) dX4_wins_23 rfl q166 (Nat.le_of_ble_eq_true rfl) rfl m0 m1 rfl rfl ((ms_winsOf 0 (MSk_of hS2) hI (by omega) (by omega) (by omega) (by omega)).up (by omega)) (fun r9 h9 e9 => ?_))))
      obtain ⟨⟨P, rfl, hP, hPe⟩, hSk, hf21⟩ := e9
      show Wp _ _ _ _ [mL _] _ _ _
      obtain ⟨wm, lf, rt, ws, rw, pt, wh, on, tw, wo, wt, dn, hM, hwm, hrw, hk⟩ := id hSk
      obtain ⟨m0, m1, mch, map, mpl, mwm, mlf, mrt, mws, mrw, mpt, mwh, mon, mtw, mdn, lch, lap, lpl, lwm, llf, lrt, lws, lrw, lpt, lwh, lon, ltw, ldn, m8⟩ := id hM
      have hW := hk trivial
      have hwp := w12_in n (by omega)
      have hW2 : wh.getD ((sz : Int) - 2).toNat 0 = w12 n := hW
      refine wp_ls4 (q := 28) dX4_wins_26 rfl rfl (wp_ll4 (q := 30) dX4_wins_28 rfl (wp_al0 (q := 31) dX4_wins_30 rfl (wp_getf (q := 34) dX4_wins_31 rfl f33 m0 m1 rfl (fun z => nomatch z) (wp_al0 (q := 35) dX4_wins_34 rfl (wp_getf (q := 38) dX4_wins_35 rfl f23 m0 m1 rfl (fun z => nomatch z) (wp_ic (q := 39) dX4_wins_38 rfl (by decide) (by decide) (wp_isub (q := 40) dX4_wins_39 rfl (by omega) (by omega) (wp_laload (q := 41) dX4_wins_40 rfl mwh (by omega) (by omega) ?_))))))))
      rw [hW2]
      refine wp_il3 (q := 42) dX4_wins_41 rfl (wp_s3I (q := 45) dX4_wins_42 rfl q146 (Nat.le_of_ble_eq_true rfl) rfl rfl rfl ((mt_told 0 hP.1 (by omega)).up (by omega)) (wp_lret dX4_wins_45 rfl ?_))
      refine ⟨rJ ?_, hSk.weak, fun j hj => (hf21 j hj).trans (hf20 j hj)⟩
      unfold spWins
      rw [if_neg (by omega)]
      have l3 := (lrA_in (sz := (sz : Int)) hI.hs)
      exact fcA_cross hP.1 (by omega) (wn_in hI.hch hI.hs i v).1 (pts_pos (by omega) (by omega)) hPe
    · refine wp_ldl (-1) (q := 19) dX4_wins_16 rfl l11 (by decide) (by decide) (wp_lret dX4_wins_19 rfl ?_)
      exact ⟨rJ (by unfold spWins; rw [if_pos (by omega)]), MSx.weak (f := fun il => il = 1) hS2, hf20⟩
theorem ms_mean (d : Nat) {h : List mC} {g n sz : Nat} {ch ro pl wi : List Int} (hS : MS h g n sz ch ro pl wi) (hI : Inv n sz ch ro pl wi) {v : Int} {up : Prop} [Decidable up] : Ct (d + 5) mX4_mean [mR g, mI v, mI (bI up)] h (fun r9 h9 => r9 = some (mL (spMean n sz ro ch v up)) ∧ MS h9 g n sz ch ro pl wi ∧ ∀ j : Nat, (j < g ∨ g + 14 ≤ j) → h9[j]? = h[j]?) := by
  obtain ⟨wm, lf, rt, ws, rw, pt, wh, on, tw, wo, wt, il, dr, dn, hM, hwm, hil, hdr, hf0⟩ := id hS
  obtain ⟨m0, m1, mch, map, mpl, mwm, mlf, mrt, mws, mrw, mpt, mwh, mon, mtw, mdn, lch, lap, lpl, lwm, llf, lrt, lws, lrw, lpt, lwh, lon, ltw, ldn, m8⟩ := id hM
  have hrl := rowsO_le n sz ro
  have hn8 := hI.hn
  show Wp _ mX4_mean 0 [mR g, mI v, mI (bI up), mU, mU, mU] [] h (0, 0) _
  refine wp_al0 (q := 1) dX4_mean_0 rfl (wp_il1 (q := 2) dX4_mean_1 rfl (wp_v1I (q := 5) dX4_mean_2 rfl q124 (Nat.le_of_ble_eq_true rfl) rfl m0 m1 rfl rfl ((mt_isPlayer 0 hM (by have := hI.hn; omega)).up (by omega)) (wp_ifb_ne (t := 12) (q := 8) dX4_mean_5 rfl rfl (fun c5 => ?_) (fun c5 => ?_))))
  · refine wp_al0 (q := 13) dX4_mean_12 rfl (wp_v0 (q := 16) dX4_mean_13 rfl q156 (Nat.le_of_ble_eq_true rfl) rfl m0 m1 rfl rfl ((ms_list 0 hS hI).up (by omega)) (fun r9 h9 e9 => ?_))
    obtain ⟨rfl, hS2, hf20⟩ := e9
    show Wp _ _ _ _ [] _ _ _
    obtain ⟨wm, lf, rt, ws, rw, pt, wh, on, tw, wo, wt, il, dr, dn, hM, hwm, hil, hdr, hil1⟩ := id hS2
    obtain ⟨m0, m1, mch, map, mpl, mwm, mlf, mrt, mws, mrw, mpt, mwh, mon, mtw, mdn, lch, lap, lpl, lwm, llf, lrt, lws, lrw, lpt, lwh, lon, ltw, ldn, m8⟩ := id hM
    obtain ⟨hdl, hrw⟩ := hdr hil1
    refine wp_al0 (q := 17) dX4_mean_16 rfl (wp_getf (q := 20) dX4_mean_17 rfl f39 m0 m1 rfl (fun z => nomatch z) (wp_if_ne (t := 27) (q := 23) dX4_mean_20 rfl rfl (fun c20 => ?_) (fun c20 => ?_)))
    · refine wp_lc0 (q := 28) dX4_mean_27 rfl (wp_ls3 (q := 29) dX4_mean_28 rfl rfl (wp_ic (q := 30) dX4_mean_29 rfl (by decide) (by decide) (wp_is5 (q := 32) dX4_mean_30 rfl rfl ?_)))
      have v0 : 0 ≤ v := by omega
      have v1 : v < n := by omega
      have hne : 0 < (rowsO n sz ro).length := by omega
      have hlr := lrA_in (sz := (sz : Int)) hI.hs
      have hKp := pts_pos (r := lrA sz) (by omega) (by omega)
      have hwp := w12_in n (by omega)
      have hspec : spMean n sz ro ch v up = fcA (sumN (fun i => wnA n sz ro ch i v) (rowsO n sz ro).length) (pts (lrA sz) * ((rowsO n sz ro).length : Nat)) up := by unfold spMean; rw [if_neg (by omega), if_neg (by omega)]
      have hnn : 0 ≤ sumN (fun i => wnA n sz ro ch i v) (rowsO n sz ro).length := (sumN_le (c := 75144747810816) _ (fun q hq => wn_in hI.hch hI.hs q v)).1
      have key : ∀ j : Nat, j ≤ (rowsO n sz ro).length → ∀ (h1 : List mC) (S i : Int), i = j → MSk (0 < j) h1 g n sz ch ro pl wi → (0 ≤ S ∧ S ≤ i * 9618527719784448) → S * pts (lrA sz) = sumN (fun i => wnA n sz ro ch i v) j * w12 n → (∀ j : Nat, (j < g ∨ g + 14 ≤ j) → h1[j]? = h[j]?) → Wp (d + 5) mX4_mean 32 [mR g, mI v, mI (bI up), mL S, mU, mI i] [] h1 (0, 0) (fun r9 h9 => r9 = some (mL (spMean n sz ro ch v up)) ∧ MS h9 g n sz ch ro pl wi ∧ ∀ j : Nat, (j < g ∨ g + 14 ≤ j) → h9[j]? = h[j]?) := by
        refine loop_up _ _ ?_ ?_
        · intro h1 S i hi hSk hS1 hS2 hf
          obtain ⟨wm, lf, rt, ws, rw, pt, wh, on, tw, wo, wt, dn, hM, hwm, hrw, hk⟩ := id hSk
          obtain ⟨m0, m1, mch, map, mpl, mwm, mlf, mrt, mws, mrw, mpt, mwh, mon, mtw, mdn, lch, lap, lpl, lwm, llf, lrt, lws, lrw, lpt, lwh, lon, ltw, ldn, m8⟩ := id hM
          have hW : wh.getD ((sz : Int) - 2).toNat 0 = w12 n := hk hne
          have hlm := mul_in (by omega : 0 ≤ (((rowsO n sz ro).length : Nat) : Int)) (by omega : (((rowsO n sz ro).length : Nat) : Int) ≤ 315) (by omega : 0 ≤ w12 n) hwp.2
          have hlp := Int.mul_pos (by omega : 0 < (((rowsO n sz ro).length : Nat) : Int)) (by omega : 0 < w12 n)
          refine wp_il5 (q := 34) dX4_mean_32 rfl (wp_al0 (q := 35) dX4_mean_34 rfl (wp_getf (q := 38) dX4_mean_35 rfl f39 m0 m1 rfl (fun z => nomatch z) (wp_icmp_ge (t := 57) (q := 41) dX4_mean_38 rfl rfl (fun c38 => ?_) (fun c38 => ?_))))
          · refine wp_ll3 (q := 58) dX4_mean_57 rfl (wp_al0 (q := 59) dX4_mean_58 rfl (wp_getf (q := 62) dX4_mean_59 rfl f39 m0 m1 rfl (fun z => nomatch z) (wp_i2l (q := 63) dX4_mean_62 rfl (wp_al0 (q := 64) dX4_mean_63 rfl (wp_getf (q := 67) dX4_mean_64 rfl f33 m0 m1 rfl (fun z => nomatch z) (wp_al0 (q := 68) dX4_mean_67 rfl (wp_getf (q := 71) dX4_mean_68 rfl f23 m0 m1 rfl (fun z => nomatch z) (wp_ic (q := 72) dX4_mean_71 rfl (by decide) (by decide) (wp_isub (q := 73) dX4_mean_72 rfl (by omega) (by omega) (wp_laload (q := 74) dX4_mean_73 rfl mwh (by omega) (by omega) ?_))))))))))
            rw [hW]
            refine wp_lmul (q := 75) dX4_mean_74 rfl (by omega) (by omega) (wp_il2 (q := 76) dX4_mean_75 rfl (wp_s3I (q := 79) dX4_mean_76 rfl q146 (Nat.le_of_ble_eq_true rfl) rfl rfl rfl ((mt_told 0 hS1.1 hlp).up (by omega)) (wp_lret dX4_mean_79 rfl ?_)))
            refine ⟨rJ ?_, hSk.weak, hf⟩
            rw [hspec]
            refine fcA_cross hS1.1 hlp hnn (Int.mul_pos hKp (by omega)) ?_
            have l : S * (pts (lrA sz) * ((rowsO n sz ro).length : Nat)) = (S * pts (lrA sz)) * ((rowsO n sz ro).length : Nat) := by rw [Int.mul_assoc]
            rw [l, hS2]
            ac_rfl
          · exfalso; omega
        · intro j hj ih h1 S i hi hSk hS1 hS2 hf
          obtain ⟨wm, lf, rt, ws, rw, pt, wh, on, tw, wo, wt, dn, hM, hwm, hrw, hk⟩ := id hSk
          obtain ⟨m0, m1, mch, map, mpl, mwm, mlf, mrt, mws, mrw, mpt, mwh, mon, mtw, mdn, lch, lap, lpl, lwm, llf, lrt, lws, lrw, lpt, lwh, lon, ltw, ldn, m8⟩ := id hM
          refine wp_il5 (q := 34) dX4_mean_32 rfl (wp_al0 (q := 35) dX4_mean_34 rfl (wp_getf (q := 38) dX4_mean_35 rfl f39 m0 m1 rfl (fun z => nomatch z) (wp_icmp_ge (t := 57) (q := 41) dX4_mean_38 rfl rfl (fun c38 => ?_) (fun c38 => ?_))))
          · exfalso; omega
          · refine wp_ll3 (q := 42) dX4_mean_41 rfl (wp_al0 (q := 43) dX4_mean_42 rfl (wp_il5 (q := 45) dX4_mean_43 rfl (wp_il1 (q := 46) dX4_mean_45 rfl (wp_v2 (q := 49) dX4_mean_46 rfl q166 (Nat.le_of_ble_eq_true rfl) rfl m0 m1 rfl rfl ((ms_winsOf 0 hSk hI (by omega) (by omega) v0 v1).up (by omega)) (fun r9 h9 e9 => ?_)))))
            obtain ⟨⟨P, rfl, hP, hPe⟩, hSk2, hf21⟩ := e9
            show Wp _ _ _ _ [mL _, mL _] _ _ _
            have e1 : sumN (fun i => wnA n sz ro ch i v) (j + 1) = sumN (fun i => wnA n sz ro ch i v) j + wnA n sz ro ch i v := by rw [hi]; rfl
            refine wp_ladd (q := 50) dX4_mean_49 rfl (by omega) (by omega) (wp_ls3 (q := 51) dX4_mean_50 rfl rfl (wp_ii5 (q := 54) dX4_mean_51 rfl rfl (by omega) (by omega) (wp_goto (q := 32) dX4_mean_54 rfl ?_)))
            refine ih _ _ _ (by omega) (hSk2.imp (fun _ => trivial)) ⟨by omega, ?_⟩ ?_ (fun j hj => (hf21 j hj).trans (hf j hj))
            · omega
            · rw [e1, Int.add_mul, Int.add_mul, hS2, hPe]
      exact key 0 (Nat.zero_le _) _ 0 0 rfl (MSk.imp (MSk_of hS2) (fun z => absurd z (Nat.lt_irrefl 0))) ⟨Int.le_refl _, by decide⟩ (by show 0 * _ = 0 * _; rw [Int.zero_mul, Int.zero_mul]) hf20
    · refine wp_ldl (-3) (q := 26) dX4_mean_23 rfl l13 (by decide) (by decide) (wp_lret dX4_mean_26 rfl ?_)
      exact ⟨rJ (by unfold spMean; rw [if_neg (by omega), if_pos (by omega)]), MSx.weak (f := fun il => il = 1) hS2, hf20⟩
  · refine wp_ldl (-1) (q := 11) dX4_mean_8 rfl l11 (by decide) (by decide) (wp_lret dX4_mean_11 rfl ?_)
    exact ⟨rJ (by unfold spMean; rw [if_pos (by omega)]), hS, fun _ _ => rfl⟩
theorem lt_cross {a b c e K W : Int} (hK : 0 < K) (hW : 0 < W) (h1 : a * K = c * W) (h2 : b * K = e * W) : a < b ↔ c < e := by
  constructor
  · intro h
    have := Int.mul_lt_mul_of_pos_right h hK
    rw [h1, h2] at this
    exact Int.lt_of_mul_lt_mul_right this (Int.le_of_lt hW)
  · intro h
    have := Int.mul_lt_mul_of_pos_right h hW
    rw [← h1, ← h2] at this
    exact Int.lt_of_mul_lt_mul_right this (Int.le_of_lt hK)
theorem ms_best (d : Nat) {h : List mC} {g n sz : Nat} {ch ro pl wi : List Int} (hS : MS h g n sz ch ro pl wi) (hI : Inv n sz ch ro pl wi) {v : Int} {least : Prop} [Decidable least] : Ct (d + 5) mX4_best [mR g, mI v, mI (bI least)] h (fun r9 h9 => r9 = some (mI (spBest n sz ro ch v least)) ∧ MS h9 g n sz ch ro pl wi ∧ ∀ j : Nat, (j < g ∨ g + 14 ≤ j) → h9[j]? = h[j]?) := by
  obtain ⟨wm, lf, rt, ws, rw, pt, wh, on, tw, wo, wt, il, dr, dn, hM, hwm, hil, hdr, hf0⟩ := id hS
  obtain ⟨m0, m1, mch, map, mpl, mwm, mlf, mrt, mws, mrw, mpt, mwh, mon, mtw, mdn, lch, lap, lpl, lwm, llf, lrt, lws, lrw, lpt, lwh, lon, ltw, ldn, m8⟩ := id hM
  have hrl := rowsO_le n sz ro
  have hn8 := hI.hn
  show Wp _ mX4_best 0 [mR g, mI v, mI (bI least), mU, mU, mU, mU, mU, mU] [] h (0, 0) _
  refine wp_al0 (q := 1) dX4_best_0 rfl (wp_il1 (q := 2) dX4_best_1 rfl (wp_v1I (q := 5) dX4_best_2 rfl q124 (Nat.le_of_ble_eq_true rfl) rfl m0 m1 rfl rfl ((mt_isPlayer 0 hM (by have := hI.hn; omega)).up (by omega)) (wp_ifb_ne (t := 10) (q := 8) dX4_best_5 rfl rfl (fun c5 => ?_) (fun c5 => ?_))))
  · refine wp_al0 (q := 11) dX4_best_10 rfl (wp_v0 (q := 14) dX4_best_11 rfl q156 (Nat.le_of_ble_eq_true rfl) rfl m0 m1 rfl rfl ((ms_list 0 hS hI).up (by omega)) (fun r9 h9 e9 => ?_))
    obtain ⟨rfl, hS2, hf20⟩ := e9
    show Wp _ _ _ _ [] _ _ _
    obtain ⟨wm, lf, rt, ws, rw, pt, wh, on, tw, wo, wt, il, dr, dn, hM, hwm, hil, hdr, hil1⟩ := id hS2
    obtain ⟨m0, m1, mch, map, mpl, mwm, mlf, mrt, mws, mrw, mpt, mwh, mon, mtw, mdn, lch, lap, lpl, lwm, llf, lrt, lws, lrw, lpt, lwh, lon, ltw, ldn, m8⟩ := id hM
    obtain ⟨hdl, hrw⟩ := hdr hil1
    refine wp_bi (q := 16) dX4_best_14 rfl (by decide) (by decide) (wp_is3 (q := 17) dX4_best_16 rfl rfl (wp_lc0 (q := 18) dX4_best_17 rfl (wp_ls4 (q := 20) dX4_best_18 rfl rfl (wp_ic (q := 21) dX4_best_20 rfl (by decide) (by decide) (wp_is6 (q := 23) dX4_best_21 rfl rfl ?_)))))
    have v0 : 0 ≤ v := by omega
    have v1 : v < n := by omega
    have hlr := lrA_in (sz := (sz : Int)) hI.hs
    have hKp := pts_pos (r := lrA sz) (by omega) (by omega)
    have hwp := w12_in n (by omega)
    have hspec : spBest n sz ro ch v least = (bsF (fun i => wnA n sz ro ch i v) least (rowsO n sz ro).length).1 := by unfold spBest; rw [if_neg (by omega)]
    have key : ∀ j : Nat, j ≤ (rowsO n sz ro).length → ∀ (h1 : List mC) (B S i b : Int) (u7 u8 : mV), i = j → MSk False h1 g n sz ch ro pl wi → (B, b) = bsF (fun i => wnA n sz ro ch i v) least j → S * pts (lrA sz) = b * w12 n → (∀ j : Nat, (j < g ∨ g + 14 ≤ j) → h1[j]? = h[j]?) → Wp (d + 5) mX4_best 23 [mR g, mI v, mI (bI least), mI B, mL S, mU, mI i, u7, u8] [] h1 (0, 0) (fun r9 h9 => r9 = some (mI (spBest n sz ro ch v least)) ∧ MS h9 g n sz ch ro pl wi ∧ ∀ j : Nat, (j < g ∨ g + 14 ≤ j) → h9[j]? = h[j]?) := by
      refine loop_up _ _ ?_ ?_
      · intro h1 B S i b u7 u8 hi hSk hB hS1 hf
        obtain ⟨wm, lf, rt, ws, rw, pt, wh, on, tw, wo, wt, dn, hM, hwm, hrw, hk⟩ := id hSk
        obtain ⟨m0, m1, mch, map, mpl, mwm, mlf, mrt, mws, mrw, mpt, mwh, mon, mtw, mdn, lch, lap, lpl, lwm, llf, lrt, lws, lrw, lpt, lwh, lon, ltw, ldn, m8⟩ := id hM
        rw [← hB] at hspec
        have hspec2 : spBest n sz ro ch v least = B := hspec
        clear hB hspec
        refine wp_il6 (q := 25) dX4_best_23 rfl (wp_al0 (q := 26) dX4_best_25 rfl (wp_getf (q := 29) dX4_best_26 rfl f39 m0 m1 rfl (fun z => nomatch z) (wp_icmp_ge (t := 83) (q := 32) dX4_best_29 rfl rfl (fun c29 => ?_) (fun c29 => ?_))))
        · refine wp_il3 (q := 84) dX4_best_83 rfl (wp_iret dX4_best_84 rfl ?_)
          exact ⟨rI hspec2.symm, hSk.weak, hf⟩
        · exfalso; omega
      · intro j hj ih h1 B S i b u7 u8 hi hSk hB hS1 hf
        clear hspec
        obtain ⟨wm, lf, rt, ws, rw, pt, wh, on, tw, wo, wt, dn, hM, hwm, hrw, hk⟩ := id hSk
        obtain ⟨m0, m1, mch, map, mpl, mwm, mlf, mrt, mws, mrw, mpt, mwh, mon, mtw, mdn, lch, lap, lpl, lwm, llf, lrt, lws, lrw, lpt, lwh, lon, ltw, ldn, m8⟩ := id hM
        have e1 : bsF (fun i => wnA n sz ro ch i v) least (j + 1) = if B = -9 ∨ ((least ∧ wnA n sz ro ch i v < b) ∨ (¬ least ∧ b < wnA n sz ro ch i v)) then (i, wnA n sz ro ch i v) else (B, b) := by
          rw [hi]
          show (if (bsF (fun i => wnA n sz ro ch i v) least j).1 = -9 ∨ ((least ∧ wnA n sz ro ch j v < (bsF (fun i => wnA n sz ro ch i v) least j).2) ∨ (¬ least ∧ (bsF (fun i => wnA n sz ro ch i v) least j).2 < wnA n sz ro ch j v)) then ((j : Int), wnA n sz ro ch j v) else bsF (fun i => wnA n sz ro ch i v) least j) = _
          rw [← hB]
        clear hB
        refine wp_il6 (q := 25) dX4_best_23 rfl (wp_al0 (q := 26) dX4_best_25 rfl (wp_getf (q := 29) dX4_best_26 rfl f39 m0 m1 rfl (fun z => nomatch z) (wp_icmp_ge (t := 83) (q := 32) dX4_best_29 rfl rfl (fun c29 => ?_) (fun c29 => ?_))))
        · exfalso; omega
        · refine wp_al0 (q := 33) dX4_best_32 rfl (wp_il6 (q := 35) dX4_best_33 rfl (wp_il1 (q := 36) dX4_best_35 rfl (wp_v2 (q := 39) dX4_best_36 rfl q166 (Nat.le_of_ble_eq_true rfl) rfl m0 m1 rfl rfl ((ms_winsOf 0 hSk hI (by omega) (by omega) v0 v1).up (by omega)) (fun r9 h9 e9 => ?_))))
          obtain ⟨⟨P, rfl, hP, hPe⟩, hSk2, hf21⟩ := e9
          have hS3 := hSk2.imp (c2 := False) (fun _ => trivial)
          have x1 := lt_cross hKp (by omega) hPe hS1
          have x2 := lt_cross hKp (by omega) hS1 hPe
          have hf3 : ∀ j : Nat, (j < g ∨ g + 14 ≤ j) → h9[j]? = h[j]? := fun j hj => (hf21 j hj).trans (hf j hj)
          have hup : ∀ (hc : B = -9 ∨ ((least ∧ wnA n sz ro ch i v < b) ∨ (¬ least ∧ b < wnA n sz ro ch i v))) (u7 u8 : mV), Wp (d + 5) mX4_best 23 [mR g, mI v, mI (bI least), mI i, mL P, mU, mI (i + 1), u7, u8] [] h9 (0, 0) (fun r9 h9 => r9 = some (mI (spBest n sz ro ch v least)) ∧ MS h9 g n sz ch ro pl wi ∧ ∀ j : Nat, (j < g ∨ g + 14 ≤ j) → h9[j]? = h[j]?) := fun hc u7 u8 => ih h9 i P (i + 1) (wnA n sz ro ch i v) u7 u8 (by omega) hS3 (by rw [e1, if_pos hc]) hPe hf3
          have hno : ∀ (hc : ¬ (B = -9 ∨ ((least ∧ wnA n sz ro ch i v < b) ∨ (¬ least ∧ b < wnA n sz ro ch i v)))) (u7 u8 : mV), Wp (d + 5) mX4_best 23 [mR g, mI v, mI (bI least), mI B, mL S, mU, mI (i + 1), u7, u8] [] h9 (0, 0) (fun r9 h9 => r9 = some (mI (spBest n sz ro ch v least)) ∧ MS h9 g n sz ch ro pl wi ∧ ∀ j : Nat, (j < g ∨ g + 14 ≤ j) → h9[j]? = h[j]?) := fun hc u7 u8 => ih h9 B S (i + 1) b u7 u8 (by omega) hS3 (by rw [e1, if_neg hc]) hS1 hf3
          show Wp _ _ _ _ [mL _] _ _ _
          refine wp_ls7 (q := 41) dX4_best_39 rfl rfl (wp_il3 (q := 42) dX4_best_41 rfl (wp_bi (q := 44) dX4_best_42 rfl (by decide) (by decide) (wp_icmp_eq (t := 70) (q := 47) dX4_best_44 rfl rfl (fun c44 => ?_) (fun c44 => ?_))))
          · refine wp_il6 (q := 72) dX4_best_70 rfl (wp_is3 (q := 73) dX4_best_72 rfl rfl (wp_ll7 (q := 75) dX4_best_73 rfl (wp_ls4 (q := 77) dX4_best_75 rfl rfl (wp_ii6 (q := 80) dX4_best_77 rfl rfl (by omega) (by omega) (wp_goto (q := 23) dX4_best_80 rfl ?_)))))
            first
              | exact hup (Or.inl c44) _ _
              | exact hup (Or.inr (Or.inl ⟨c48, x1.mp c56⟩)) _ _
              | exact hup (Or.inr (Or.inr ⟨c48, x2.mp c67⟩)) _ _
              | exact hno (fun z => z.elim c44 (fun z => z.elim (fun z => absurd (x1.mpr z.2) (Int.not_lt.mpr c56)) (fun z => z.1 c48))) _ _
              | exact hno (fun z => z.elim c44 (fun z => z.elim (fun z => c48 z.1) (fun z => absurd (x2.mpr z.2) (Int.not_lt.mpr c67)))) _ _
          · refine wp_il2 (q := 48) dX4_best_47 rfl (wp_ifb_eq (t := 62) (q := 51) dX4_best_48 rfl rfl (fun c48 => ?_) (fun c48 => ?_))
            · refine wp_ll7 (q := 64) dX4_best_62 rfl (wp_ll4 (q := 66) dX4_best_64 rfl (wp_lcmp_le (q1 := 67) (t := 77) (q := 70) dX4_best_66 rfl dX4_best_67 rfl rfl (fun c67 => ?_) (fun c67 => ?_)))
              · refine wp_ii6 (q := 80) dX4_best_77 rfl rfl (by omega) (by omega) (wp_goto (q := 23) dX4_best_80 rfl ?_)
                first
                  | exact hup (Or.inl c44) _ _
                  | exact hup (Or.inr (Or.inl ⟨c48, x1.mp c56⟩)) _ _
                  | exact hup (Or.inr (Or.inr ⟨c48, x2.mp c67⟩)) _ _
                  | exact hno (fun z => z.elim c44 (fun z => z.elim (fun z => absurd (x1.mpr z.2) (Int.not_lt.mpr c56)) (fun z => z.1 c48))) _ _
                  | exact hno (fun z => z.elim c44 (fun z => z.elim (fun z => c48 z.1) (fun z => absurd (x2.mpr z.2) (Int.not_lt.mpr c67)))) _ _
              · refine wp_il6 (q := 72) dX4_best_70 rfl (wp_is3 (q := 73) dX4_best_72 rfl rfl (wp_ll7 (q := 75) dX4_best_73 rfl (wp_ls4 (q := 77) dX4_best_75 rfl rfl (wp_ii6 (q := 80) dX4_best_77 rfl rfl (by omega) (by omega) (wp_goto (q := 23) dX4_best_80 rfl ?_)))))
                first
                  | exact hup (Or.inl c44) _ _
                  | exact hup (Or.inr (Or.inl ⟨c48, x1.mp c56⟩)) _ _
                  | exact hup (Or.inr (Or.inr ⟨c48, x2.mp c67⟩)) _ _
                  | exact hno (fun z => z.elim c44 (fun z => z.elim (fun z => absurd (x1.mpr z.2) (Int.not_lt.mpr c56)) (fun z => z.1 c48))) _ _
                  | exact hno (fun z => z.elim c44 (fun z => z.elim (fun z => c48 z.1) (fun z => absurd (x2.mpr z.2) (Int.not_lt.mpr c67)))) _ _
            · refine wp_ll7 (q := 53) dX4_best_51 rfl (wp_ll4 (q := 55) dX4_best_53 rfl (wp_lcmp_ge (q1 := 56) (t := 77) (q := 59) dX4_best_55 rfl dX4_best_56 rfl rfl (fun c56 => ?_) (fun c56 => ?_)))
              · refine wp_ii6 (q := 80) dX4_best_77 rfl rfl (by omega) (by omega) (wp_goto (q := 23) dX4_best_80 rfl ?_)
                first
                  | exact hup (Or.inl c44) _ _
                  | exact hup (Or.inr (Or.inl ⟨c48, x1.mp c56⟩)) _ _
                  | exact hup (Or.inr (Or.inr ⟨c48, x2.mp c67⟩)) _ _
                  | exact hno (fun z => z.elim c44 (fun z => z.elim (fun z => absurd (x1.mpr z.2) (Int.not_lt.mpr c56)) (fun z => z.1 c48))) _ _
                  | exact hno (fun z => z.elim c44 (fun z => z.elim (fun z => c48 z.1) (fun z => absurd (x2.mpr z.2) (Int.not_lt.mpr c67)))) _ _
              · refine wp_goto (q := 70) dX4_best_59 rfl (wp_il6 (q := 72) dX4_best_70 rfl (wp_is3 (q := 73) dX4_best_72 rfl rfl (wp_ll7 (q := 75) dX4_best_73 rfl (wp_ls4 (q := 77) dX4_best_75 rfl rfl (wp_ii6 (q := 80) dX4_best_77 rfl rfl (by omega) (by omega) (wp_goto (q := 23) dX4_best_80 rfl ?_))))))
                first
                  | exact hup (Or.inl c44) _ _
                  | exact hup (Or.inr (Or.inl ⟨c48, x1.mp c56⟩)) _ _
                  | exact hup (Or.inr (Or.inr ⟨c48, x2.mp c67⟩)) _ _
                  | exact hno (fun z => z.elim c44 (fun z => z.elim (fun z => absurd (x1.mpr z.2) (Int.not_lt.mpr c56)) (fun z => z.1 c48))) _ _
                  | exact hno (fun z => z.elim c44 (fun z => z.elim (fun z => c48 z.1) (fun z => absurd (x2.mpr z.2) (Int.not_lt.mpr c67)))) _ _
    exact key 0 (Nat.zero_le _) _ (-9) 0 0 0 _ _ rfl (MSk_of hS2) rfl (by rw [Int.zero_mul, Int.zero_mul]) hf20
  · refine wp_ic (q := 9) dX4_best_8 rfl (by decide) (by decide) (wp_iret dX4_best_9 rfl ?_)
    exact ⟨rI (by unfold spBest; rw [if_pos (by omega)]), hS, fun _ _ => rfl⟩
