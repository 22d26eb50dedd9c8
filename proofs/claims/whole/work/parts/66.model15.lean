/-! the model: isDraw, draws, draw, lay, first (rows laid by wip/whole) -/
theorem RwA.dn {n sz : Nat} {ro dn : List Int} (h : RwA (rowsO n sz ro) dn) {i x : Int} (i0 : 0 ≤ i) (i1 : i < ((rowsO n sz ro).length : Nat)) (x0 : 0 ≤ x) (x1 : x < 8) : gI dn (8 * i + x) = drA (rowsO n sz ro) i x := by
  obtain ⟨a, rfl⟩ := Int.eq_ofNat_of_zero_le i0
  obtain ⟨b, rfl⟩ := Int.eq_ofNat_of_zero_le x0
  have := h a b (by omega) (by omega)
  rw [Int.mul_comm, this]
  rfl
/-- who is where in a draw -/
theorem dr_ix {n sz : Nat} {ro : List Int} (hn : n ≤ 8) (h8 : sz ≤ 8) {i v : Int} (i0 : 0 ≤ i) (i1 : i < ((rowsO n sz ro).length : Nat)) (v0 : 0 ≤ v) (v1 : v < n) : 0 ≤ plD n sz ro i v ∧ plD n sz ro i v < sz ∧ ∀ k : Int, 0 ≤ k → k < sz → (drA (rowsO n sz ro) i k = v ↔ k = plD n sz ro i v) := by
  obtain ⟨g1, g2, g3, g4⟩ := drG (ro := ro) hn h8 i0 i1
  have hp := plD_in (ro := ro) hn h8 i0 i1 v0 v1
  have h1 := (fndF_in (f := drA (rowsO n sz ro) i) (v := v) (n := 8) 8 (Nat.le_refl _)).2.2
  have e : drA (rowsO n sz ro) i (plD n sz ro i v) = v := h1 (by unfold plD at hp; omega)
  have hlt : plD n sz ro i v < sz := Classical.byContradiction (fun z => by
    have := g3 (plD n sz ro i v) (by omega) (by omega)
    have e2 : gI ((rowsO n sz ro).getD i.toNat []) (plD n sz ro i v) = v := e
    omega)
  refine ⟨hp.1, hlt, fun k k0 k1 => ⟨fun z => ?_, fun z => by rw [z]; exact e⟩⟩
  exact g2 k _ k0 k1 hp.1 hlt (z.trans e.symm) (by
    have e2 : gI ((rowsO n sz ro).getD i.toNat []) k = v := z
    omega)
theorem ms_isDraw (d : Nat) {h : List mC} {g n sz : Nat} {ch ro pl wi : List Int} (hS : MS h g n sz ch ro pl wi) (hI : Inv n sz ch ro pl wi) {i : Int} : Ct (d + 4) mX4_isDraw [mR g, mI i] h (fun r9 h9 => r9 = some (mI (bI (0 ≤ i ∧ i < ((rowsO n sz ro).length : Nat)))) ∧ MSl h9 g n sz ch ro pl wi ∧ ∀ j : Nat, (j < g ∨ g + 14 ≤ j) → h9[j]? = h[j]?) := by
  obtain ⟨wm, lf, rt, ws, rw, pt, wh, on, tw, wo, wt, il, dr, dn, hM, hwm, hil, hdr, hf0⟩ := id hS
  obtain ⟨m0, m1, mch, map, mpl, mwm, mlf, mrt, mws, mrw, mpt, mwh, mon, mtw, mdn, lch, lap, lpl, lwm, llf, lrt, lws, lrw, lpt, lwh, lon, ltw, ldn, m8⟩ := id hM
  have hrl := rowsO_le n sz ro
  show Wp _ mX4_isDraw 0 [mR g, mI i] [] h (0, 0) _
  refine wp_al0 (q := 1) dX4_isDraw_0 rfl (wp_v0 (q := 4) dX4_isDraw_1 rfl q156 (Nat.le_of_ble_eq_true rfl) rfl m0 m1 rfl rfl ((ms_list 0 hS hI).up (by omega)) (fun r9 h9 e9 => ?_))
  obtain ⟨rfl, hS2, hf20⟩ := e9
  show Wp _ _ _ _ [] _ _ _
  obtain ⟨wm, lf, rt, ws, rw, pt, wh, on, tw, wo, wt, il, dr, dn, hM, hwm, hil, hdr, hil1⟩ := id hS2
  obtain ⟨m0, m1, mch, map, mpl, mwm, mlf, mrt, mws, mrw, mpt, mwh, mon, mtw, mdn, lch, lap, lpl, lwm, llf, lrt, lws, lrw, lpt, lwh, lon, ltw, ldn, m8⟩ := id hM
  obtain ⟨hdl, hrw⟩ := hdr hil1
  refine wp_il1 (q := 5) dX4_isDraw_4 rfl (wp_i2l (q := 6) dX4_isDraw_5 rfl (wp_lc0 (q := 7) dX4_isDraw_6 rfl (wp_al0 (q := 8) dX4_isDraw_7 rfl (wp_getf (q := 11) dX4_isDraw_8 rfl f39 m0 m1 rfl (fun z => nomatch z) (wp_ic (q := 12) dX4_isDraw_11 rfl (by decide) (by decide) (wp_isub (q := 13) dX4_isDraw_12 rfl (by omega) (by omega) (wp_i2l (q := 14) dX4_isDraw_13 rfl (wp_s3I (q := 17) dX4_isDraw_14 rfl q122 (Nat.le_of_ble_eq_true rfl) rfl rfl rfl ((mt_in 0).up (by omega)) (wp_bret dX4_isDraw_17 rfl (by first | exact Or.inl rfl | exact Or.inr rfl | exact bI_01) ?_)))))))))
  refine ⟨rI (bI_c ⟨fun z => by omega, fun z => by omega⟩), hS2, hf20⟩
theorem ms_draws (d : Nat) {h : List mC} {g n sz : Nat} {ch ro pl wi : List Int} (hS : MS h g n sz ch ro pl wi) (hI : Inv n sz ch ro pl wi) : Ct (d + 4) mX4_draws [mR g] h (fun r9 h9 => r9 = some (mI ((rowsO n sz ro).length : Nat)) ∧ MS h9 g n sz ch ro pl wi ∧ ∀ j : Nat, (j < g ∨ g + 14 ≤ j) → h9[j]? = h[j]?) := by
  obtain ⟨wm, lf, rt, ws, rw, pt, wh, on, tw, wo, wt, il, dr, dn, hM, hwm, hil, hdr, hf0⟩ := id hS
  obtain ⟨m0, m1, mch, map, mpl, mwm, mlf, mrt, mws, mrw, mpt, mwh, mon, mtw, mdn, lch, lap, lpl, lwm, llf, lrt, lws, lrw, lpt, lwh, lon, ltw, ldn, m8⟩ := id hM
  show Wp _ mX4_draws 0 [mR g] [] h (0, 0) _
  refine wp_al0 (q := 1) dX4_draws_0 rfl (wp_v0 (q := 4) dX4_draws_1 rfl q156 (Nat.le_of_ble_eq_true rfl) rfl m0 m1 rfl rfl ((ms_list 0 hS hI).up (by omega)) (fun r9 h9 e9 => ?_))
  obtain ⟨rfl, hS2, hf20⟩ := e9
  show Wp _ _ _ _ [] _ _ _
  obtain ⟨wm, lf, rt, ws, rw, pt, wh, on, tw, wo, wt, il, dr, dn, hM, hwm, hil, hdr, hil1⟩ := id hS2
  obtain ⟨m0, m1, mch, map, mpl, mwm, mlf, mrt, mws, mrw, mpt, mwh, mon, mtw, mdn, lch, lap, lpl, lwm, llf, lrt, lws, lrw, lpt, lwh, lon, ltw, ldn, m8⟩ := id hM
  obtain ⟨hdl, hrw⟩ := hdr hil1
  refine wp_al0 (q := 5) dX4_draws_4 rfl (wp_getf (q := 8) dX4_draws_5 rfl f39 m0 m1 rfl (fun z => nomatch z) (wp_iret dX4_draws_8 rfl ?_))
  exact ⟨rI hdl, MSx.weak (f := fun il => il = 1) hS2, hf20⟩
theorem ms_draw (d : Nat) {h : List mC} {g n sz : Nat} {ch ro pl wi : List Int} (hS : MS h g n sz ch ro pl wi) (hI : Inv n sz ch ro pl wi) {i x : Int} : Ct (d + 5) mX4_draw [mR g, mI i, mI x] h (fun r9 h9 => r9 = some (mI (spDraw n sz ro i x)) ∧ MS h9 g n sz ch ro pl wi ∧ ∀ j : Nat, (j < g ∨ g + 14 ≤ j) → h9[j]? = h[j]?) := by
  obtain ⟨wm, lf, rt, ws, rw, pt, wh, on, tw, wo, wt, il, dr, dn, hM, hwm, hil, hdr, hf0⟩ := id hS
  obtain ⟨m0, m1, mch, map, mpl, mwm, mlf, mrt, mws, mrw, mpt, mwh, mon, mtw, mdn, lch, lap, lpl, lwm, llf, lrt, lws, lrw, lpt, lwh, lon, ltw, ldn, m8⟩ := id hM
  have hrl := rowsO_le n sz ro
  show Wp _ mX4_draw 0 [mR g, mI i, mI x] [] h (0, 0) _
  refine wp_al0 (q := 1) dX4_draw_0 rfl (wp_il1 (q := 2) dX4_draw_1 rfl (wp_v1 (q := 5) dX4_draw_2 rfl q162 (Nat.le_of_ble_eq_true rfl) rfl m0 m1 rfl rfl ((ms_isDraw 0 hS hI).up (by omega)) (fun r9 h9 e9 => ?_)))
  obtain ⟨rfl, hS2, hf20⟩ := e9
  show Wp _ _ _ _ [mI _] _ _ _
  obtain ⟨wm, lf, rt, ws, rw, pt, wh, on, tw, wo, wt, il, dr, dn, hM, hwm, hil, hdr, hil1⟩ := id hS2
  obtain ⟨m0, m1, mch, map, mpl, mwm, mlf, mrt, mws, mrw, mpt, mwh, mon, mtw, mdn, lch, lap, lpl, lwm, llf, lrt, lws, lrw, lpt, lwh, lon, ltw, ldn, m8⟩ := id hM
  obtain ⟨hdl, hrw⟩ := hdr hil1
  refine wp_ifb_eq (t := 16) (q := 8) dX4_draw_5 rfl rfl (fun c5 => ?_) (fun c5 => ?_)
  · refine wp_ic (q := 17) dX4_draw_16 rfl (by decide) (by decide) (wp_iret dX4_draw_17 rfl ?_)
    exact ⟨rI (by unfold spDraw; rw [if_neg (by omega)]), MSx.weak (f := fun il => il = 1) hS2, hf20⟩
  · refine wp_al0 (q := 9) dX4_draw_8 rfl (wp_il2 (q := 10) dX4_draw_9 rfl (wp_v1I (q := 13) dX4_draw_10 rfl q128 (Nat.le_of_ble_eq_true rfl) rfl m0 m1 rfl rfl ((mt_isPlace 0 hM).up (by omega)) (wp_ifb_ne (t := 18) (q := 16) dX4_draw_13 rfl rfl (fun c13 => ?_) (fun c13 => ?_))))
    · refine wp_al0 (q := 19) dX4_draw_18 rfl (wp_getf (q := 22) dX4_draw_19 rfl f40 m0 m1 rfl (fun z => nomatch z) (wp_bi (q := 24) dX4_draw_22 rfl (by decide) (by decide) (wp_il1 (q := 25) dX4_draw_24 rfl (wp_imul (q := 26) dX4_draw_25 rfl (by omega) (by omega) (wp_il2 (q := 27) dX4_draw_26 rfl (wp_iadd (q := 28) dX4_draw_27 rfl (by omega) (by omega) (wp_iaload (q := 29) dX4_draw_28 rfl mdn (by omega) (by omega) ?_)))))))
      rw [show dn.getD (8 * i + x).toNat 0 = drA (rowsO n sz ro) i x from hrw.dn (by omega) (by omega) (by omega) (by omega)]
      refine wp_bi (q := 31) dX4_draw_29 rfl (by decide) (by decide) (wp_icmp_ne (t := 39) (q := 34) dX4_draw_31 rfl rfl (fun c31 => ?_) (fun c31 => ?_))
      · refine wp_al0 (q := 40) dX4_draw_39 rfl (wp_getf (q := 43) dX4_draw_40 rfl f40 m0 m1 rfl (fun z => nomatch z) (wp_bi (q := 45) dX4_draw_43 rfl (by decide) (by decide) (wp_il1 (q := 46) dX4_draw_45 rfl (wp_imul (q := 47) dX4_draw_46 rfl (by omega) (by omega) (wp_il2 (q := 48) dX4_draw_47 rfl (wp_iadd (q := 49) dX4_draw_48 rfl (by omega) (by omega) (wp_iaload (q := 50) dX4_draw_49 rfl mdn (by omega) (by omega) ?_)))))))
        rw [show dn.getD (8 * i + x).toNat 0 = drA (rowsO n sz ro) i x from hrw.dn (by omega) (by omega) (by omega) (by omega)]
        refine wp_iret dX4_draw_50 rfl ?_
        refine ⟨rI ?_, MSx.weak (f := fun il => il = 1) hS2, hf20⟩
        unfold spDraw tld
        rw [if_pos (by omega)]
        first
          | exact (if_pos c31).symm
          | exact (if_neg c31).symm
      · refine wp_bi (q := 36) dX4_draw_34 rfl (by decide) (by decide) (wp_goto (q := 50) dX4_draw_36 rfl (wp_iret dX4_draw_50 rfl ?_))
        refine ⟨rI ?_, MSx.weak (f := fun il => il = 1) hS2, hf20⟩
        unfold spDraw tld
        rw [if_pos (by omega)]
        first
          | exact (if_pos c31).symm
          | exact (if_neg c31).symm
    · refine wp_ic (q := 17) dX4_draw_16 rfl (by decide) (by decide) (wp_iret dX4_draw_17 rfl ?_)
      exact ⟨rI (by unfold spDraw; rw [if_neg (by omega)]), MSx.weak (f := fun il => il = 1) hS2, hf20⟩
theorem ms_lay (d : Nat) {h : List mC} {g n sz : Nat} {ch ro pl wi : List Int} (hS : MS h g n sz ch ro pl wi) (hI : Inv n sz ch ro pl wi) {i : Int} : Ct (d + 5) mX4_lay [mR g, mI i] h (fun r9 h9 => r9 = some (mI (spLay n sz ro i)) ∧ (if 0 ≤ i ∧ i < ((rowsO n sz ro).length : Nat) then MS h9 g n sz ch ro (lay8 (drA (rowsO n sz ro) i) sz) (List.replicate 8 8) else MS h9 g n sz ch ro pl wi) ∧ ∀ j : Nat, (j < g ∨ g + 14 ≤ j) → h9[j]? = h[j]?) := by
  obtain ⟨wm, lf, rt, ws, rw, pt, wh, on, tw, wo, wt, il, dr, dn, hM, hwm, hil, hdr, hf0⟩ := id hS
  obtain ⟨m0, m1, mch, map, mpl, mwm, mlf, mrt, mws, mrw, mpt, mwh, mon, mtw, mdn, lch, lap, lpl, lwm, llf, lrt, lws, lrw, lpt, lwh, lon, ltw, ldn, m8⟩ := id hM
  have hrl := rowsO_le n sz ro
  show Wp _ mX4_lay 0 [mR g, mI i, mU] [] h (0, 0) _
  refine wp_al0 (q := 1) dX4_lay_0 rfl (wp_il1 (q := 2) dX4_lay_1 rfl (wp_v1 (q := 5) dX4_lay_2 rfl q162 (Nat.le_of_ble_eq_true rfl) rfl m0 m1 rfl rfl ((ms_isDraw 0 hS hI).up (by omega)) (fun r9 h9 e9 => ?_)))
  obtain ⟨rfl, hS2, hf20⟩ := e9
  show Wp _ _ _ _ [mI _] _ _ _
  obtain ⟨wm, lf, rt, ws, rw, pt, wh, on, tw, wo, wt, il, dr, dn, hM, hwm, hil, hdr, hil1⟩ := id hS2
  obtain ⟨m0, m1, mch, map, mpl, mwm, mlf, mrt, mws, mrw, mpt, mwh, mon, mtw, mdn, lch, lap, lpl, lwm, llf, lrt, lws, lrw, lpt, lwh, lon, ltw, ldn, m8⟩ := id hM
  obtain ⟨hdl, hrw⟩ := hdr hil1
  refine wp_ifb_ne (t := 10) (q := 8) dX4_lay_5 rfl rfl (fun c5 => ?_) (fun c5 => ?_)
  · refine wp_ic (q := 11) dX4_lay_10 rfl (by decide) (by decide) (wp_is2 (q := 12) dX4_lay_11 rfl rfl ?_)
    have hn8 := hI.hn
    have i0 : 0 ≤ i := by omega
    have i1 : i < ((rowsO n sz ro).length : Nat) := by omega
    obtain ⟨g1, g2, g3, g4⟩ := drG (ro := ro) (by omega : n ≤ 8) (by omega : sz ≤ 8) i0 i1
    have key : ∀ j : Nat, j ≤ 8 → ∀ (h1 : List mC) (pl1 : List Int) (x : Int), x = j → MU h1 g (n : Int) (sz : Int) ch ro pl1 wm lf rt ws rw pt wh on tw wo wt il dr dn → (∀ y : Int, 0 ≤ y → y < x → gI pl1 y = drA (rowsO n sz ro) i y) → (∀ j : Nat, (j < g ∨ g + 14 ≤ j) → h1[j]? = h[j]?) → Wp (d + 5) mX4_lay 12 [mR g, mI i, mI x] [] h1 (0, 0) (fun r9 h9 => r9 = some (mI (spLay n sz ro i)) ∧ (if 0 ≤ i ∧ i < ((rowsO n sz ro).length : Nat) then MS h9 g n sz ch ro (lay8 (drA (rowsO n sz ro) i) sz) (List.replicate 8 8) else MS h9 g n sz ch ro pl wi) ∧ ∀ j : Nat, (j < g ∨ g + 14 ≤ j) → h9[j]? = h[j]?) := by
      refine loop_up 8 _ ?_ ?_
      · intro h1 pl1 x hx hM hw hf
        obtain ⟨m0, m1, mch, map, mpl, mwm, mlf, mrt, mws, mrw, mpt, mwh, mon, mtw, mdn, lch, lap, lpl, lwm, llf, lrt, lws, lrw, lpt, lwh, lon, ltw, ldn, m8⟩ := id hM
        refine wp_il2 (q := 13) dX4_lay_12 rfl (wp_bi (q := 15) dX4_lay_13 rfl (by decide) (by decide) (wp_icmp_ge (t := 41) (q := 18) dX4_lay_15 rfl rfl (fun c15 => ?_) (fun c15 => ?_)))
        · refine wp_al0 (q := 42) dX4_lay_41 rfl (wp_v0 (q := 45) dX4_lay_42 rfl q120 (Nat.le_of_ble_eq_true rfl) rfl m0 m1 rfl rfl ((mt_undecide 0 hM).up (by omega)) (fun r9 h9 e9 => ?_))
          obtain ⟨rfl, hM9, hf9⟩ := e9
          show Wp _ _ _ _ [] _ _ _
          refine wp_ic (q := 46) dX4_lay_45 rfl (by decide) (by decide) (wp_iret dX4_lay_46 rfl ?_)
          refine ⟨rI (by unfold spLay; rw [if_pos ⟨i0, i1⟩]), ?_, fun j hj => (hf9 j hj).trans (hf j hj)⟩
          rw [if_pos ⟨i0, i1⟩]
          have e : pl1 = (lay8 (drA (rowsO n sz ro) i) sz) := gI_ext (lpl.trans (lay8_len _ _).symm) (fun y y0 y1 => by
            rw [hw y y0 (by omega)]
            unfold lay8
            rw [gI_map8 y0 (by omega)]
            show _ = if ((y.toNat : Nat) : Int) < sz then drA (rowsO n sz ro) i ((y.toNat : Nat) : Int) else 8
            rw [show ((y.toNat : Nat) : Int) = y by omega]
            split
            · rfl
            · exact g3 y (by omega) (by omega))
          rw [e] at hM9
          exact ⟨_, lf, rt, ws, rw, pt, wh, on, tw, wo, wt, il, dr, dn, hM9, WmO_new, hil, hdr, trivial⟩
        · exfalso; omega
      · intro j hj ih h1 pl1 x hx hM hw hf
        obtain ⟨m0, m1, mch, map, mpl, mwm, mlf, mrt, mws, mrw, mpt, mwh, mon, mtw, mdn, lch, lap, lpl, lwm, llf, lrt, lws, lrw, lpt, lwh, lon, ltw, ldn, m8⟩ := id hM
        have hdx := hrw.dn i0 i1 (x := x) (by omega) (by omega)
        have hdx2 : dn.getD (8 * i + x).toNat 0 = drA (rowsO n sz ro) i x := hdx
        refine wp_il2 (q := 13) dX4_lay_12 rfl (wp_bi (q := 15) dX4_lay_13 rfl (by decide) (by decide) (wp_icmp_ge (t := 41) (q := 18) dX4_lay_15 rfl rfl (fun c15 => ?_) (fun c15 => ?_)))
        · exfalso; omega
        · refine wp_al0 (q := 19) dX4_lay_18 rfl (wp_getf (q := 22) dX4_lay_19 rfl f26 m0 m1 rfl (fun z => nomatch z) (wp_il2 (q := 23) dX4_lay_22 rfl (wp_al0 (q := 24) dX4_lay_23 rfl (wp_getf (q := 27) dX4_lay_24 rfl f40 m0 m1 rfl (fun z => nomatch z) (wp_bi (q := 29) dX4_lay_27 rfl (by decide) (by decide) (wp_il1 (q := 30) dX4_lay_29 rfl (wp_imul (q := 31) dX4_lay_30 rfl (by omega) (by omega) (wp_il2 (q := 32) dX4_lay_31 rfl (wp_iadd (q := 33) dX4_lay_32 rfl (by omega) (by omega) (wp_iaload (q := 34) dX4_lay_33 rfl mdn (by omega) (by omega) ?_))))))))))
          rw [hdx2]
          refine wp_iastore (q := 35) dX4_lay_34 rfl (by omega) mpl (by omega) (by omega) (wp_ii2 (q := 38) dX4_lay_35 rfl rfl (by omega) (by omega) (wp_goto (q := 12) dX4_lay_38 rfl ?_))
          refine ih _ (sI pl1 x (drA (rowsO n sz ro) i x)) _ (by omega) (hM.sPl ((sI_len _ _ _).trans lpl)) (fun y y0 y1 => ?_) (fun j hj => by rw [fr_set (by omega)]; exact hf j hj)
          by_cases e : y = x
          · rw [e]; exact gI_eq (by omega) (by omega)
          · rw [gI_ne (by omega) y0 (by omega)]; exact hw y y0 (by omega)
    exact key 0 (Nat.zero_le _) _ pl 0 rfl hM (fun y y0 y1 => by omega) hf20
  · refine wp_ic (q := 9) dX4_lay_8 rfl (by decide) (by decide) (wp_iret dX4_lay_9 rfl ?_)
    exact ⟨rI (by unfold spLay; rw [if_neg (by omega)]), by rw [if_neg (by omega)]; exact MSx.weak (f := fun il => il = 1) hS2, hf20⟩
theorem ms_first (d : Nat) {h : List mC} {g n sz : Nat} {ch ro pl wi : List Int} (hS : MS h g n sz ch ro pl wi) (hI : Inv n sz ch ro pl wi) {x y r : Int} : Ct (d + 5) mX4_first [mR g, mI x, mI y, mI r] h (fun r9 h9 => r9 = some (mI (spFirst n sz ro x y r)) ∧ MS h9 g n sz ch ro pl wi ∧ ∀ j : Nat, (j < g ∨ g + 14 ≤ j) → h9[j]? = h[j]?) := by
  obtain ⟨wm, lf, rt, ws, rw, pt, wh, on, tw, wo, wt, il, dr, dn, hM, hwm, hil, hdr, hf0⟩ := id hS
  obtain ⟨m0, m1, mch, map, mpl, mwm, mlf, mrt, mws, mrw, mpt, mwh, mon, mtw, mdn, lch, lap, lpl, lwm, llf, lrt, lws, lrw, lpt, lwh, lon, ltw, ldn, m8⟩ := id hM
  have hrl := rowsO_le n sz ro
  have hn8 := hI.hn
  show Wp _ mX4_first 0 [mR g, mI x, mI y, mI r, mU, mU, mU, mU, mU] [] h (0, 0) _
  refine wp_al0 (q := 1) dX4_first_0 rfl (wp_il1 (q := 2) dX4_first_1 rfl (wp_v1I (q := 5) dX4_first_2 rfl q124 (Nat.le_of_ble_eq_true rfl) rfl m0 m1 rfl rfl ((mt_isPlayer 0 hM (by omega)).up (by omega)) (wp_ifb_eq (t := 16) (q := 8) dX4_first_5 rfl rfl (fun c5 => ?_) (fun c5 => ?_))))
  · refine wp_ic (q := 17) dX4_first_16 rfl (by decide) (by decide) (wp_iret dX4_first_17 rfl ?_)
    exact ⟨rI (by unfold spFirst; rw [if_pos (by omega)]), hS, fun _ _ => rfl⟩
  · refine wp_al0 (q := 9) dX4_first_8 rfl (wp_il2 (q := 10) dX4_first_9 rfl (wp_v1I (q := 13) dX4_first_10 rfl q124 (Nat.le_of_ble_eq_true rfl) rfl m0 m1 rfl rfl ((mt_isPlayer 0 hM (by omega)).up (by omega)) (wp_ifb_ne (t := 18) (q := 16) dX4_first_13 rfl rfl (fun c13 => ?_) (fun c13 => ?_))))
    · refine wp_il3 (q := 19) dX4_first_18 rfl (wp_i2l (q := 20) dX4_first_19 rfl (wp_lc1 (q := 21) dX4_first_20 rfl (wp_al0 (q := 22) dX4_first_21 rfl (wp_v0I (q := 25) dX4_first_22 rfl q135 (Nat.le_of_ble_eq_true rfl) rfl m0 m1 rfl rfl ((mt_rounds 0 hM).up (by omega)) (wp_i2l (q := 26) dX4_first_25 rfl (wp_s3I (q := 29) dX4_first_26 rfl q122 (Nat.le_of_ble_eq_true rfl) rfl rfl rfl ((mt_in 0).up (by omega)) (wp_ifb_ne (t := 35) (q := 32) dX4_first_29 rfl rfl (fun c29 => ?_) (fun c29 => ?_))))))))
      · refine wp_il1 (q := 36) dX4_first_35 rfl (wp_il2 (q := 37) dX4_first_36 rfl (wp_icmp_ne (t := 43) (q := 40) dX4_first_37 rfl rfl (fun c37 => ?_) (fun c37 => ?_)))
        · refine wp_al0 (q := 44) dX4_first_43 rfl (wp_v0 (q := 47) dX4_first_44 rfl q156 (Nat.le_of_ble_eq_true rfl) rfl m0 m1 rfl rfl ((ms_list 0 hS hI).up (by omega)) (fun r9 h9 e9 => ?_))
          obtain ⟨rfl, hS2, hf20⟩ := e9
          show Wp _ _ _ _ [] _ _ _
          obtain ⟨wm, lf, rt, ws, rw, pt, wh, on, tw, wo, wt, il, dr, dn, hM, hwm, hil, hdr, hil1⟩ := id hS2
          obtain ⟨m0, m1, mch, map, mpl, mwm, mlf, mrt, mws, mrw, mpt, mwh, mon, mtw, mdn, lch, lap, lpl, lwm, llf, lrt, lws, lrw, lpt, lwh, lon, ltw, ldn, m8⟩ := id hM
          obtain ⟨hdl, hrw⟩ := hdr hil1
          refine wp_ic (q := 48) dX4_first_47 rfl (by decide) (by decide) (wp_is4 (q := 50) dX4_first_48 rfl rfl (wp_ic (q := 51) dX4_first_50 rfl (by decide) (by decide) (wp_is5 (q := 53) dX4_first_51 rfl rfl ?_)))
          have x0 : (0 ≤ x ∧ x < n) ∧ (0 ≤ y ∧ y < n) := by omega
          have hret : ∀ c : Int, c = sumN (fun i => bI (mrA (plD n sz ro i x) (plD n sz ro i y) = r)) (rowsO n sz ro).length → c = spFirst n sz ro x y r := fun c hc => by unfold spFirst; rw [if_neg (by omega), if_neg (by omega), if_neg (by omega)]; exact hc
          have key : ∀ j : Nat, j ≤ (rowsO n sz ro).length → ∀ (c i : Int) (u6 u7 u8 : mV), i = j → c = sumN (fun i => bI (mrA (plD n sz ro i x) (plD n sz ro i y) = r)) j → Wp (d + 5) mX4_first 53 [mR g, mI x, mI y, mI r, mI c, mI i, u6, u7, u8] [] h9 (0, 0) (fun r9 h9 => r9 = some (mI (spFirst n sz ro x y r)) ∧ MS h9 g n sz ch ro pl wi ∧ ∀ j : Nat, (j < g ∨ g + 14 ≤ j) → h9[j]? = h[j]?) := by
            refine loop_up _ _ ?_ ?_
            · intro c i u6 u7 u8 hi hc
              have hret2 := hret c hc
              refine wp_il5 (q := 55) dX4_first_53 rfl (wp_al0 (q := 56) dX4_first_55 rfl (wp_getf (q := 59) dX4_first_56 rfl f39 m0 m1 rfl (fun z => nomatch z) (wp_icmp_ge (t := 165) (q := 62) dX4_first_59 rfl rfl (fun c59 => ?_) (fun c59 => ?_))))
              · refine wp_il4 (q := 167) dX4_first_165 rfl (wp_iret dX4_first_167 rfl ?_)
                exact ⟨rI hret2, MSx.weak (f := fun il => il = 1) hS2, hf20⟩
              · exfalso; omega
            · intro j hj ih c i u6 u7 u8 hi hc
              have i0 : 0 ≤ i := by omega
              have i1 : i < ((rowsO n sz ro).length : Nat) := by omega
              obtain ⟨p, hp⟩ : ∃ p, p = plD n sz ro i x := ⟨_, rfl⟩
              obtain ⟨q, hq⟩ : ∃ q, q = plD n sz ro i y := ⟨_, rfl⟩
              obtain ⟨p0, p1, p2⟩ := dr_ix (ro := ro) (by omega : n ≤ 8) (by omega : sz ≤ 8) i0 i1 x0.1.1 x0.1.2
              obtain ⟨q0, q1, q2⟩ := dr_ix (ro := ro) (by omega : n ≤ 8) (by omega : sz ≤ 8) i0 i1 x0.2.1 x0.2.2
              rw [← hp] at p0 p1 p2
              rw [← hq] at q0 q1 q2
              have e1 : sumN (fun i => bI (mrA (plD n sz ro i x) (plD n sz ro i y) = r)) (j + 1) = c + bI (mrA p q = r) := by rw [hc, hp, hq, hi]; rfl
              have bo := sumB_in (p := fun i : Nat => mrA (plD n sz ro i x) (plD n sz ro i y) = r) j
              have bo2 : 0 ≤ c ∧ c ≤ j := by rw [hc]; exact bo
              clear bo
              have k2 : ∀ l : Nat, l ≤ sz → ∀ (P R k : Int), k = l → P = (if p < k then p else 0) → R = (if q < k then q else 0) → Wp (d + 5) mX4_first 71 [mR g, mI x, mI y, mI r, mI c, mI i, mI P, mI R, mI k] [] h9 (0, 0) (fun r9 h9 => r9 = some (mI (spFirst n sz ro x y r)) ∧ MS h9 g n sz ch ro pl wi ∧ ∀ j : Nat, (j < g ∨ g + 14 ≤ j) → h9[j]? = h[j]?) := by
                refine loop_up _ _ ?_ ?_
                · intro P R k hk hP hR
                  rw [if_pos (by omega)] at hP hR
                  rw [hP, hR]
                  refine wp_il8 (q := 73) dX4_first_71 rfl (wp_al0 (q := 74) dX4_first_73 rfl (wp_getf (q := 77) dX4_first_74 rfl f23 m0 m1 rfl (fun z => nomatch z) (wp_icmp_ge (t := 138) (q := 80) dX4_first_77 rfl rfl (fun c77 => ?_) (fun c77 => ?_))))
                  · refine wp_il4 (q := 140) dX4_first_138 rfl (wp_il6 (q := 142) dX4_first_140 rfl (wp_il7 (q := 144) dX4_first_142 rfl (wp_s2I (q := 147) dX4_first_144 rfl q153 (Nat.le_of_ble_eq_true rfl) rfl rfl rfl ((mt_meetRound 0 (by omega) (by omega) (by omega) (by omega)).up (by omega)) (wp_il3 (q := 148) dX4_first_147 rfl (wp_icmp_ne (t := 155) (q := 151) dX4_first_148 rfl rfl (fun c148 => ?_) (fun c148 => ?_))))))
                    · rw [bI_f c148] at e1
                      refine wp_ic (q := 156) dX4_first_155 rfl (by decide) (by decide) (wp_iadd (q := 157) dX4_first_156 rfl (by omega) (by omega) (wp_is4 (q := 159) dX4_first_157 rfl rfl (wp_ii5 (q := 162) dX4_first_159 rfl rfl (by omega) (by omega) (wp_goto (q := 53) dX4_first_162 rfl ?_))))
                      exact ih _ _ _ _ _ (by omega) (by rw [e1])
                    · rw [bI_t c148] at e1
                      refine wp_ic (q := 152) dX4_first_151 rfl (by decide) (by decide) (wp_goto (q := 156) dX4_first_152 rfl (wp_iadd (q := 157) dX4_first_156 rfl (by omega) (by omega) (wp_is4 (q := 159) dX4_first_157 rfl rfl (wp_ii5 (q := 162) dX4_first_159 rfl rfl (by omega) (by omega) (wp_goto (q := 53) dX4_first_162 rfl ?_)))))
                      exact ih _ _ _ _ _ (by omega) (by rw [e1])
                  · exfalso; omega
                · intro l hl ihl P R k hk hP hR
                  have z1 := p2 k (by omega) (by omega)
                  have z2 := q2 k (by omega) (by omega)
                  have z3 := hrw.dn i0 i1 (x := k) (by omega) (by omega)
                  have z4 : dn.getD (8 * i + k).toNat 0 = drA (rowsO n sz ro) i k := z3
                  have hst : ∀ P1 : Int, P1 = (if p < k + 1 then p else 0) → Wp (d + 5) mX4_first 106 [mR g, mI x, mI y, mI r, mI c, mI i, mI P1, mI R, mI k] [] h9 (0, 0) (fun r9 h9 => r9 = some (mI (spFirst n sz ro x y r)) ∧ MS h9 g n sz ch ro pl wi ∧ ∀ j : Nat, (j < g ∨ g + 14 ≤ j) → h9[j]? = h[j]?) := by
                    intro P1 hP1
                    refine wp_al0 (q := 107) dX4_first_106 rfl (wp_getf (q := 110) dX4_first_107 rfl f40 m0 m1 rfl (fun z => nomatch z) (wp_bi (q := 112) dX4_first_110 rfl (by decide) (by decide) (wp_il5 (q := 114) dX4_first_112 rfl (wp_imul (q := 115) dX4_first_114 rfl (by omega) (by omega) (wp_il8 (q := 117) dX4_first_115 rfl (wp_iadd (q := 118) dX4_first_117 rfl (by omega) (by omega) (wp_iaload (q := 119) dX4_first_118 rfl mdn (by omega) (by omega) ?_)))))))
                    rw [z4]
                    refine wp_il2 (q := 120) dX4_first_119 rfl (wp_icmp_ne (t := 128) (q := 123) dX4_first_120 rfl rfl (fun c120 => ?_) (fun c120 => ?_))
                    · refine wp_il7 (q := 130) dX4_first_128 rfl (wp_is7 (q := 132) dX4_first_130 rfl rfl (wp_ii8 (q := 135) dX4_first_132 rfl rfl (by omega) (by omega) (wp_goto (q := 71) dX4_first_135 rfl ?_)))
                      refine ihl _ _ _ (by omega) hP1 ?_
                      clear hP1 hP
                      split at hR <;> split <;> omega
                    · refine wp_il8 (q := 125) dX4_first_123 rfl (wp_goto (q := 130) dX4_first_125 rfl (wp_is7 (q := 132) dX4_first_130 rfl rfl (wp_ii8 (q := 135) dX4_first_132 rfl rfl (by omega) (by omega) (wp_goto (q := 71) dX4_first_135 rfl ?_))))
                      refine ihl _ _ _ (by omega) hP1 ?_
                      clear hP1 hP
                      split at hR <;> split <;> omega
                  refine wp_il8 (q := 73) dX4_first_71 rfl (wp_al0 (q := 74) dX4_first_73 rfl (wp_getf (q := 77) dX4_first_74 rfl f23 m0 m1 rfl (fun z => nomatch z) (wp_icmp_ge (t := 138) (q := 80) dX4_first_77 rfl rfl (fun c77 => ?_) (fun c77 => ?_))))
                  · exfalso; omega
                  · refine wp_al0 (q := 81) dX4_first_80 rfl (wp_getf (q := 84) dX4_first_81 rfl f40 m0 m1 rfl (fun z => nomatch z) (wp_bi (q := 86) dX4_first_84 rfl (by decide) (by decide) (wp_il5 (q := 88) dX4_first_86 rfl (wp_imul (q := 89) dX4_first_88 rfl (by omega) (by omega) (wp_il8 (q := 91) dX4_first_89 rfl (wp_iadd (q := 92) dX4_first_91 rfl (by omega) (by omega) (wp_iaload (q := 93) dX4_first_92 rfl mdn (by omega) (by omega) ?_)))))))
                    rw [z4]
                    refine wp_il1 (q := 94) dX4_first_93 rfl (wp_icmp_ne (t := 102) (q := 97) dX4_first_94 rfl rfl (fun c94 => ?_) (fun c94 => ?_))
                    · refine wp_il6 (q := 104) dX4_first_102 rfl (wp_is6 (q := 106) dX4_first_104 rfl rfl ?_)
                      refine hst _ ?_
                      clear hR
                      split at hP <;> split <;> omega
                    · refine wp_il8 (q := 99) dX4_first_97 rfl (wp_goto (q := 104) dX4_first_99 rfl (wp_is6 (q := 106) dX4_first_104 rfl rfl ?_))
                      refine hst _ ?_
                      clear hR
                      split at hP <;> split <;> omega
              refine wp_il5 (q := 55) dX4_first_53 rfl (wp_al0 (q := 56) dX4_first_55 rfl (wp_getf (q := 59) dX4_first_56 rfl f39 m0 m1 rfl (fun z => nomatch z) (wp_icmp_ge (t := 165) (q := 62) dX4_first_59 rfl rfl (fun c59 => ?_) (fun c59 => ?_))))
              · exfalso; omega
              · refine wp_ic (q := 63) dX4_first_62 rfl (by decide) (by decide) (wp_is6 (q := 65) dX4_first_63 rfl rfl (wp_ic (q := 66) dX4_first_65 rfl (by decide) (by decide) (wp_is7 (q := 68) dX4_first_66 rfl rfl (wp_ic (q := 69) dX4_first_68 rfl (by decide) (by decide) (wp_is8 (q := 71) dX4_first_69 rfl rfl ?_)))))
                exact k2 0 (Nat.zero_le _) 0 0 0 rfl (by split <;> omega) (by split <;> omega)
          exact key 0 (Nat.zero_le _) 0 0 _ _ _ rfl rfl
        · refine wp_bi (q := 42) dX4_first_40 rfl (by decide) (by decide) (wp_iret dX4_first_42 rfl ?_)
          exact ⟨rI (by unfold spFirst; rw [if_neg (by omega), if_neg (by omega), if_pos (by omega)]), hS, fun _ _ => rfl⟩
      · refine wp_bi (q := 34) dX4_first_32 rfl (by decide) (by decide) (wp_iret dX4_first_34 rfl ?_)
        exact ⟨rI (by unfold spFirst; rw [if_neg (by omega), if_pos (by omega)]), hS, fun _ _ => rfl⟩
    · refine wp_ic (q := 17) dX4_first_16 rfl (by decide) (by decide) (wp_iret dX4_first_17 rfl ?_)
      exact ⟨rI (by unfold spFirst; rw [if_pos (by omega)]), hS, fun _ _ => rfl⟩
