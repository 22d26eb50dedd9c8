/-! the model: won, match, can (rows laid by wip/whole) -/
/-- what holds of the state between calls -/
def Inv (n sz : Nat) (ch ro pl wi : List Int) : Prop := (2 ≤ n ∧ n ≤ 8) ∧ ((sz : Int) = 2 ∨ (sz : Int) = 4 ∨ (sz : Int) = 8) ∧ (ch.length = 64) ∧ (ro.length = 64) ∧ (pl.length = 8) ∧ (wi.length = 8) ∧ (chB ch) ∧ (chS ch) ∧ (roS ro) ∧ (v8 pl) ∧ (∀ x : Int, 0 ≤ x → x < 8 → rd8 pl x = 8 ∨ rd8 pl x < n) ∧ (∀ y : Int, sz ≤ y → y < 8 → gI pl y = 8) ∧ (DisG sz pl) ∧ (v8 wi) ∧ (∀ x : Int, (sz : Int) - 1 ≤ x → x < 8 → rd8 wi x = 8) ∧ (WiG sz pl wi)
theorem Inv.hn {n sz : Nat} {ch ro pl wi : List Int} (h : Inv n sz ch ro pl wi) : 2 ≤ n ∧ n ≤ 8 := h.1
theorem Inv.hs {n sz : Nat} {ch ro pl wi : List Int} (h : Inv n sz ch ro pl wi) : (sz : Int) = 2 ∨ (sz : Int) = 4 ∨ (sz : Int) = 8 := h.2.1
theorem Inv.chl {n sz : Nat} {ch ro pl wi : List Int} (h : Inv n sz ch ro pl wi) : ch.length = 64 := h.2.2.1
theorem Inv.rol {n sz : Nat} {ch ro pl wi : List Int} (h : Inv n sz ch ro pl wi) : ro.length = 64 := h.2.2.2.1
theorem Inv.pll {n sz : Nat} {ch ro pl wi : List Int} (h : Inv n sz ch ro pl wi) : pl.length = 8 := h.2.2.2.2.1
theorem Inv.wil {n sz : Nat} {ch ro pl wi : List Int} (h : Inv n sz ch ro pl wi) : wi.length = 8 := h.2.2.2.2.2.1
theorem Inv.hch {n sz : Nat} {ch ro pl wi : List Int} (h : Inv n sz ch ro pl wi) : chB ch := h.2.2.2.2.2.2.1
theorem Inv.hcs {n sz : Nat} {ch ro pl wi : List Int} (h : Inv n sz ch ro pl wi) : chS ch := h.2.2.2.2.2.2.2.1
theorem Inv.hro {n sz : Nat} {ch ro pl wi : List Int} (h : Inv n sz ch ro pl wi) : roS ro := h.2.2.2.2.2.2.2.2.1
theorem Inv.hv {n sz : Nat} {ch ro pl wi : List Int} (h : Inv n sz ch ro pl wi) : v8 pl := h.2.2.2.2.2.2.2.2.2.1
theorem Inv.hpn {n sz : Nat} {ch ro pl wi : List Int} (h : Inv n sz ch ro pl wi) : ∀ x : Int, 0 ≤ x → x < 8 → rd8 pl x = 8 ∨ rd8 pl x < n := h.2.2.2.2.2.2.2.2.2.2.1
theorem Inv.hpt {n sz : Nat} {ch ro pl wi : List Int} (h : Inv n sz ch ro pl wi) : ∀ y : Int, sz ≤ y → y < 8 → gI pl y = 8 := h.2.2.2.2.2.2.2.2.2.2.2.1
theorem Inv.hdi {n sz : Nat} {ch ro pl wi : List Int} (h : Inv n sz ch ro pl wi) : DisG sz pl := h.2.2.2.2.2.2.2.2.2.2.2.2.1
theorem Inv.hwv {n sz : Nat} {ch ro pl wi : List Int} (h : Inv n sz ch ro pl wi) : v8 wi := h.2.2.2.2.2.2.2.2.2.2.2.2.2.1
theorem Inv.hwt {n sz : Nat} {ch ro pl wi : List Int} (h : Inv n sz ch ro pl wi) : ∀ x : Int, (sz : Int) - 1 ≤ x → x < 8 → rd8 wi x = 8 := h.2.2.2.2.2.2.2.2.2.2.2.2.2.2.1
theorem Inv.hwg {n sz : Nat} {ch ro pl wi : List Int} (h : Inv n sz ch ro pl wi) : WiG sz pl wi := h.2.2.2.2.2.2.2.2.2.2.2.2.2.2.2
theorem orM {l t : Int} (h1 : mk8 l) (h2 : mk8 t) : mOr l t = ((l.toNat ||| t.toNat : Nat) : Int) := by
  have := mOr_nat (a := l.toNat) (b := t.toNat) (by omega) (by omega)
  rw [show ((l.toNat : Nat) : Int) = l by omega, show ((t.toNat : Nat) : Int) = t by omega] at this
  exact this
theorem orM_0 {l t : Int} (h1 : mk8 l) (h2 : mk8 t) : ((l.toNat ||| t.toNat : Nat) : Int) = 0 ↔ (l = 0 ∧ t = 0) := by
  have h3 : l.toNat < 256 := by omega
  have h4 : t.toNat < 256 := by omega
  have z := tb_zero (Nat.or_lt_two_pow (n := 8) h3 h4)
  have zl := tb_zero h3
  have zt := tb_zero h4
  constructor
  · intro e
    have e2 := z.mp (by omega)
    have a1 : l.toNat = 0 := zl.mpr (fun p hp q => e2 p hp ((tb_lor _ _ _).mpr (Or.inl q)))
    have a2 : t.toNat = 0 := zt.mpr (fun p hp q => e2 p hp ((tb_lor _ _ _).mpr (Or.inr q)))
    clear z zl zt
    omega
  · rintro ⟨rfl, rfl⟩; rfl
theorem WmO_r {wi wm : List Int} (hwv : v8 wi) (hw : WmO wi wm) : wmR wm := fun x x0 x1 => by
  have := rd8_in hwv x
  rw [hw x x0 x1]
  unfold tld
  split <;> omega
abbrev stB (s c : Int) : Prop := s = 0 ∨ s = 3 ∨ (s = 1 ∧ c = 1)
theorem mt_sort (d : Nat) {h : List mC} {g : Nat} {n sz : Int} {ch ap pl wm lf rt ws rw pt wh on tw : List Int} {wo wt il dr : Int} {dn : List Int} (hM : MU h g n sz ch ap pl wm lf rt ws rw pt wh on tw wo wt il dr dn) {x : Int} (x0 : 0 ≤ x) (x1 : x < 7) (k1 : mk8 (gI lf x)) (k2 : mk8 (gI rt x)) : Rt (d + 0) mX4_sort [mR g, mI x] h (some (mI (srM (gI lf x) (gI rt x) (gI wm x)))) (h) := by
  obtain ⟨m0, m1, mch, map, mpl, mwm, mlf, mrt, mws, mrw, mpt, mwh, mon, mtw, mdn, lch, lap, lpl, lwm, llf, lrt, lws, lrw, lpt, lwh, lon, ltw, ldn, m8⟩ := id hM
  have eo : mOr (lf.getD x.toNat 0) (rt.getD x.toNat 0) = ((((gI lf x).toNat ||| (gI rt x).toNat : Nat)) : Int) := orM k1 k2
  have e0 := orM_0 k1 k2
  generalize (((gI lf x).toNat ||| (gI rt x).toNat : Nat) : Int) = O at eo e0
  show Wp _ mX4_sort 0 [mR g, mI x] [] h (0, 0) _
  refine wp_al0 (q := 1) dX4_sort_0 rfl (wp_getf (q := 4) dX4_sort_1 rfl f28 m0 m1 rfl (fun z => nomatch z) (wp_il1 (q := 5) dX4_sort_4 rfl (wp_iaload (q := 6) dX4_sort_5 rfl mlf (by omega) (by omega) (wp_al0 (q := 7) dX4_sort_6 rfl (wp_getf (q := 10) dX4_sort_7 rfl f29 m0 m1 rfl (fun z => nomatch z) (wp_il1 (q := 11) dX4_sort_10 rfl (wp_iaload (q := 12) dX4_sort_11 rfl mrt (by omega) (by omega) (wp_ior _ (q := 13) dX4_sort_12 rfl rfl ?_))))))))
  rw [eo]
  refine wp_if_ne (t := 18) (q := 16) dX4_sort_13 rfl rfl (fun c13 => ?_) (fun c13 => ?_)
  · refine wp_al0 (q := 19) dX4_sort_18 rfl (wp_getf (q := 22) dX4_sort_19 rfl f28 m0 m1 rfl (fun z => nomatch z) (wp_il1 (q := 23) dX4_sort_22 rfl (wp_iaload (q := 24) dX4_sort_23 rfl mlf (by omega) (by omega) (wp_if_eq (t := 36) (q := 27) dX4_sort_24 rfl rfl (fun c24 => ?_) (fun c24 => ?_)))))
    · have d24 : gI lf x = 0 := c24
      refine wp_ic (q := 37) dX4_sort_36 rfl (by decide) (by decide) (wp_goto (q := 56) dX4_sort_37 rfl (wp_iret dX4_sort_56 rfl ?_))
      refine ⟨rI ?_, rfl⟩
      unfold srM
      clear hM eo
      (repeat' split) <;> omega
    · have d24 : gI lf x ≠ 0 := c24
      refine wp_al0 (q := 28) dX4_sort_27 rfl (wp_getf (q := 31) dX4_sort_28 rfl f29 m0 m1 rfl (fun z => nomatch z) (wp_il1 (q := 32) dX4_sort_31 rfl (wp_iaload (q := 33) dX4_sort_32 rfl mrt (by omega) (by omega) (wp_if_ne (t := 40) (q := 36) dX4_sort_33 rfl rfl (fun c33 => ?_) (fun c33 => ?_)))))
      · have d33 : gI rt x ≠ 0 := c33
        refine wp_al0 (q := 41) dX4_sort_40 rfl (wp_getf (q := 44) dX4_sort_41 rfl f27 m0 m1 rfl (fun z => nomatch z) (wp_il1 (q := 45) dX4_sort_44 rfl (wp_iaload (q := 46) dX4_sort_45 rfl mwm (by omega) (by omega) (wp_bi (q := 48) dX4_sort_46 rfl (by decide) (by decide) (wp_icmp_eq (t := 55) (q := 51) dX4_sort_48 rfl rfl (fun c48 => ?_) (fun c48 => ?_))))))
        · have d48 : gI wm x = -9 := c48
          refine wp_ic (q := 56) dX4_sort_55 rfl (by decide) (by decide) (wp_iret dX4_sort_56 rfl ?_)
          refine ⟨rI ?_, rfl⟩
          unfold srM
          clear hM eo
          (repeat' split) <;> omega
        · have d48 : gI wm x ≠ -9 := c48
          refine wp_ic (q := 52) dX4_sort_51 rfl (by decide) (by decide) (wp_goto (q := 56) dX4_sort_52 rfl (wp_iret dX4_sort_56 rfl ?_))
          refine ⟨rI ?_, rfl⟩
          unfold srM
          clear hM eo
          (repeat' split) <;> omega
      · have d33 : gI rt x = 0 := c33
        refine wp_ic (q := 37) dX4_sort_36 rfl (by decide) (by decide) (wp_goto (q := 56) dX4_sort_37 rfl (wp_iret dX4_sort_56 rfl ?_))
        refine ⟨rI ?_, rfl⟩
        unfold srM
        clear hM eo
        (repeat' split) <;> omega
  · refine wp_ic (q := 17) dX4_sort_16 rfl (by decide) (by decide) (wp_iret dX4_sort_17 rfl ?_)
    refine ⟨rI ?_, rfl⟩
    unfold srM
    clear hM eo
    (repeat' split) <;> omega
theorem orM_lt {l t : Int} (h1 : mk8 l) (h2 : mk8 t) : l.toNat ||| t.toNat < 256 := Nat.or_lt_two_pow (n := 8) (by omega) (by omega)
theorem mt_isSettled (d : Nat) {h : List mC} {g : Nat} {n sz : Int} {ch ap pl wm lf rt ws rw pt wh on tw : List Int} {wo wt il dr : Int} {dn : List Int} (hM : MU h g n sz ch ap pl wm lf rt ws rw pt wh on tw wo wt il dr dn) {x : Int} (x0 : 0 ≤ x) (x1 : x < 7) (k1 : mk8 (gI lf x)) (k2 : mk8 (gI rt x)) : Rt (d + 1) mX4_isSettled [mR g, mI x] h (some (mI (bI (stB (srM (gI lf x) (gI rt x) (gI wm x)) (pcN ((gI lf x).toNat ||| (gI rt x).toNat)))))) (h) := by
  obtain ⟨m0, m1, mch, map, mpl, mwm, mlf, mrt, mws, mrw, mpt, mwh, mon, mtw, mdn, lch, lap, lpl, lwm, llf, lrt, lws, lrw, lpt, lwh, lon, ltw, ldn, m8⟩ := id hM
  have eo : mOr (lf.getD x.toNat 0) (rt.getD x.toNat 0) = ((((gI lf x).toNat ||| (gI rt x).toNat : Nat)) : Int) := orM k1 k2
  show Wp _ mX4_isSettled 0 [mR g, mI x, mU] [] h (0, 0) _
  refine wp_al0 (q := 1) dX4_isSettled_0 rfl (wp_il1 (q := 2) dX4_isSettled_1 rfl (wp_v1I (q := 5) dX4_isSettled_2 rfl q140 (Nat.le_of_ble_eq_true rfl) rfl m0 m1 rfl rfl (mt_sort d hM x0 x1 k1 k2) (wp_is2 (q := 6) dX4_isSettled_5 rfl rfl (wp_il2 (q := 7) dX4_isSettled_6 rfl (wp_if_eq (t := 40) (q := 10) dX4_isSettled_7 rfl rfl (fun c7 => ?_) (fun c7 => ?_))))))
  · refine wp_ic (q := 41) dX4_isSettled_40 rfl (by decide) (by decide) (wp_goto (q := 45) dX4_isSettled_41 rfl (wp_bret dX4_isSettled_45 rfl (by first | exact Or.inl rfl | exact Or.inr rfl | exact bI_01) ?_))
    generalize srM (gI lf x) (gI rt x) (gI wm x) = S at *
    generalize pcN ((gI lf x).toNat ||| (gI rt x).toNat) = C at *
    refine ⟨rI ?_, rfl⟩
    clear hM eo
    first
      | rw [bI_t (by omega)]
      | rw [bI_f (by omega)]
  · refine wp_il2 (q := 11) dX4_isSettled_10 rfl (wp_ic (q := 12) dX4_isSettled_11 rfl (by decide) (by decide) (wp_icmp_eq (t := 40) (q := 15) dX4_isSettled_12 rfl rfl (fun c12 => ?_) (fun c12 => ?_)))
    · refine wp_ic (q := 41) dX4_isSettled_40 rfl (by decide) (by decide) (wp_goto (q := 45) dX4_isSettled_41 rfl (wp_bret dX4_isSettled_45 rfl (by first | exact Or.inl rfl | exact Or.inr rfl | exact bI_01) ?_))
      generalize srM (gI lf x) (gI rt x) (gI wm x) = S at *
      generalize pcN ((gI lf x).toNat ||| (gI rt x).toNat) = C at *
      refine ⟨rI ?_, rfl⟩
      clear hM eo
      first
        | rw [bI_t (by omega)]
        | rw [bI_f (by omega)]
    · refine wp_il2 (q := 16) dX4_isSettled_15 rfl (wp_ic (q := 17) dX4_isSettled_16 rfl (by decide) (by decide) (wp_icmp_ne (t := 44) (q := 20) dX4_isSettled_17 rfl rfl (fun c17 => ?_) (fun c17 => ?_)))
      · refine wp_ic (q := 45) dX4_isSettled_44 rfl (by decide) (by decide) (wp_bret dX4_isSettled_45 rfl (by first | exact Or.inl rfl | exact Or.inr rfl | exact bI_01) ?_)
        generalize srM (gI lf x) (gI rt x) (gI wm x) = S at *
        generalize pcN ((gI lf x).toNat ||| (gI rt x).toNat) = C at *
        refine ⟨rI ?_, rfl⟩
        clear hM eo
        first
          | rw [bI_t (by omega)]
          | rw [bI_f (by omega)]
      · refine wp_al0 (q := 21) dX4_isSettled_20 rfl (wp_getf (q := 24) dX4_isSettled_21 rfl f28 m0 m1 rfl (fun z => nomatch z) (wp_il1 (q := 25) dX4_isSettled_24 rfl (wp_iaload (q := 26) dX4_isSettled_25 rfl mlf (by omega) (by omega) (wp_al0 (q := 27) dX4_isSettled_26 rfl (wp_getf (q := 30) dX4_isSettled_27 rfl f29 m0 m1 rfl (fun z => nomatch z) (wp_il1 (q := 31) dX4_isSettled_30 rfl (wp_iaload (q := 32) dX4_isSettled_31 rfl mrt (by omega) (by omega) (wp_ior _ (q := 33) dX4_isSettled_32 rfl rfl ?_))))))))
        rw [eo]
        refine wp_s1I (q := 36) dX4_isSettled_33 rfl q141 (Nat.le_of_ble_eq_true rfl) rfl rfl rfl (mt_many d (orM_lt k1 k2)) (wp_ic (q := 37) dX4_isSettled_36 rfl (by decide) (by decide) (wp_icmp_ne (t := 44) (q := 40) dX4_isSettled_37 rfl rfl (fun c37 => ?_) (fun c37 => ?_)))
        · refine wp_ic (q := 45) dX4_isSettled_44 rfl (by decide) (by decide) (wp_bret dX4_isSettled_45 rfl (by first | exact Or.inl rfl | exact Or.inr rfl | exact bI_01) ?_)
          generalize srM (gI lf x) (gI rt x) (gI wm x) = S at *
          generalize pcN ((gI lf x).toNat ||| (gI rt x).toNat) = C at *
          refine ⟨rI ?_, rfl⟩
          clear hM eo
          first
            | rw [bI_t (by omega)]
            | rw [bI_f (by omega)]
        · refine wp_ic (q := 41) dX4_isSettled_40 rfl (by decide) (by decide) (wp_goto (q := 45) dX4_isSettled_41 rfl (wp_bret dX4_isSettled_45 rfl (by first | exact Or.inl rfl | exact Or.inr rfl | exact bI_01) ?_))
          generalize srM (gI lf x) (gI rt x) (gI wm x) = S at *
          generalize pcN ((gI lf x).toNat ||| (gI rt x).toNat) = C at *
          refine ⟨rI ?_, rfl⟩
          clear hM eo
          first
            | rw [bI_t (by omega)]
            | rw [bI_f (by omega)]
theorem ms_match (d : Nat) {h : List mC} {g n sz : Nat} {ch ro pl wi : List Int} (hS : MS h g n sz ch ro pl wi) (hI : Inv n sz ch ro pl wi) {m x : Int} (od : List Int) (hW : (0 ≤ m ∧ m < (sz : Int) - 1) → x = 3 → WgOk sz ch pl wi od) : Ct (d + 3) mX4_match [mR g, mI m, mI x] h (fun r9 h9 => r9 = some (mI (spMatch sz pl wi od m x)) ∧ MS h9 g n sz ch ro pl wi ∧ ∀ j : Nat, (j < g ∨ g + 14 ≤ j) → h9[j]? = h[j]?) := by
  obtain ⟨wm, lf, rt, ws, rw, pt, wh, on, tw, wo, wt, il, dr, dn, hM, hwm, hil, hdr, hf0⟩ := id hS
  obtain ⟨m0, m1, mch, map, mpl, mwm, mlf, mrt, mws, mrw, mpt, mwh, mon, mtw, mdn, lch, lap, lpl, lwm, llf, lrt, lws, lrw, lpt, lwh, lon, ltw, ldn, m8⟩ := id hM
  show Wp _ mX4_match 0 [mR g, mI m, mI x] [] h (0, 0) _
  refine wp_al0 (q := 1) dX4_match_0 rfl (wp_il1 (q := 2) dX4_match_1 rfl (wp_v1I (q := 5) dX4_match_2 rfl q132 (Nat.le_of_ble_eq_true rfl) rfl m0 m1 rfl rfl ((mt_isMatch 0 hM).up (by omega)) (wp_ifb_ne (t := 10) (q := 8) dX4_match_5 rfl rfl (fun c5 => ?_) (fun c5 => ?_))))
  · refine wp_al0 (q := 11) dX4_match_10 rfl (wp_v0 (q := 14) dX4_match_11 rfl q133 (Nat.le_of_ble_eq_true rfl) rfl m0 m1 rfl rfl ((mt_spread 0 hM hI.hv (WmO_r hI.hwv hwm)).up (by omega)) (fun r9 h9 e9 => ?_))
    obtain ⟨rfl, ⟨lf, rt, ws, hM, hsp⟩, hf9⟩ := e9
    obtain ⟨m0, m1, mch, map, mpl, mwm, mlf, mrt, mws, mrw, mpt, mwh, mon, mtw, mdn, lch, lap, lpl, lwm, llf, lrt, lws, lrw, lpt, lwh, lon, ltw, ldn, m8⟩ := id hM
    have hnd := fun m a b => spw_nd m8 hI.hv hI.hch hI.hcs hI.hdi hI.hwv hI.hwg hwm hsp (m.toNat + 1) m (Nat.lt_succ_self _) a b
    show Wp _ _ _ _ [] _ _ _
    have k1 := (hsp m (by omega) (by omega)).1
    have k2 := (hsp m (by omega) (by omega)).2.1
    refine wp_il2 (q := 15) dX4_match_14 rfl ?_
    rcases (show x = 0 ∨ x = 1 ∨ x = 2 ∨ x = 3 ∨ (x < 0 ∨ 3 < x) by omega) with rfl | rfl | rfl | rfl | hts
    · refine wp_tsi (off := 29) (t := 44) dX4_match_15 (by decide) (by decide) (by decide) rfl ?_
      refine wp_al0 (q := 45) dX4_match_44 rfl (wp_il1 (q := 46) dX4_match_45 rfl (wp_v1I (q := 49) dX4_match_46 rfl q134 (Nat.le_of_ble_eq_true rfl) rfl m0 m1 rfl rfl ((mt_roundOf 0 hM (by omega) (by omega)).up (by omega)) (wp_iret dX4_match_49 rfl ?_)))
      exact ⟨rI (by unfold spMatch; rw [if_neg (by omega), if_pos rfl]), ⟨wm, lf, rt, ws, rw, pt, wh, on, tw, wo, wt, il, dr, dn, hM, hwm, hil, hdr, trivial⟩, hf9⟩
    · refine wp_tsi (off := 35) (t := 50) dX4_match_15 (by decide) (by decide) (by decide) rfl ?_
      refine wp_al0 (q := 51) dX4_match_50 rfl (wp_il1 (q := 52) dX4_match_51 rfl (wp_v1I (q := 55) dX4_match_52 rfl q140 (Nat.le_of_ble_eq_true rfl) rfl m0 m1 rfl rfl ((mt_sort 0 hM (by omega) (by omega) k1 k2).up (by omega)) (wp_iret dX4_match_55 rfl ?_)))
      exact ⟨rI (by unfold spMatch; rw [if_neg (by omega), if_neg (by omega), if_pos rfl]; exact sr_kd m8 hI.hwv hwm (by omega) (by omega) (hnd m (by omega) (by omega)) k1 k2), ⟨wm, lf, rt, ws, rw, pt, wh, on, tw, wo, wt, il, dr, dn, hM, hwm, hil, hdr, trivial⟩, hf9⟩
    · refine wp_tsi (off := 41) (t := 56) dX4_match_15 (by decide) (by decide) (by decide) rfl ?_
      refine wp_al0 (q := 57) dX4_match_56 rfl (wp_getf (q := 60) dX4_match_57 rfl f27 m0 m1 rfl (fun z => nomatch z) (wp_il1 (q := 61) dX4_match_60 rfl (wp_iaload (q := 62) dX4_match_61 rfl mwm (by omega) (by omega) (wp_iret dX4_match_62 rfl ?_))))
      exact ⟨rI (by unfold spMatch; rw [if_neg (by omega), if_neg (by omega), if_neg (by omega), if_pos rfl]; exact hwm m (by omega) (by omega)), ⟨wm, lf, rt, ws, rw, pt, wh, on, tw, wo, wt, il, dr, dn, hM, hwm, hil, hdr, trivial⟩, hf9⟩
    · refine wp_tsi (off := 48) (t := 63) dX4_match_15 (by decide) (by decide) (by decide) rfl ?_
      refine wp_al0 (q := 64) dX4_match_63 rfl (wp_getf (q := 67) dX4_match_64 rfl f28 m0 m1 rfl (fun z => nomatch z) (wp_il1 (q := 68) dX4_match_67 rfl (wp_iaload (q := 69) dX4_match_68 rfl mlf (by omega) (by omega) (wp_al0 (q := 70) dX4_match_69 rfl (wp_getf (q := 73) dX4_match_70 rfl f29 m0 m1 rfl (fun z => nomatch z) (wp_il1 (q := 74) dX4_match_73 rfl (wp_iaload (q := 75) dX4_match_74 rfl mrt (by omega) (by omega) (wp_ior _ (q := 76) dX4_match_75 rfl rfl ?_))))))))
      rw [show mOr (lf.getD m.toNat 0) (rt.getD m.toNat 0) = ((((gI lf m).toNat ||| (gI rt m).toNat : Nat)) : Int) from orM k1 k2]
      refine wp_s1I (q := 79) dX4_match_76 rfl q141 (Nat.le_of_ble_eq_true rfl) rfl rfl rfl ((mt_many 0 (orM_lt k1 k2)).up (by omega)) (wp_iret dX4_match_79 rfl ?_)
      exact ⟨rI (by unfold spMatch; rw [if_neg (by omega), if_neg (by omega), if_neg (by omega), if_neg (by omega), if_pos rfl]; exact pc_cm m8 hI.hv hI.hch hI.hdi (by omega) (by omega) (hnd m (by omega) (by omega)) (hW (by omega) rfl)), ⟨wm, lf, rt, ws, rw, pt, wh, on, tw, wo, wt, il, dr, dn, hM, hwm, hil, hdr, trivial⟩, hf9⟩
    · refine wp_tso (t := 80) dX4_match_15 hts rfl ?_
      refine wp_bi (q := 82) dX4_match_80 rfl (by decide) (by decide) (wp_iret dX4_match_82 rfl ?_)
      exact ⟨rI (by unfold spMatch; rw [if_neg (by omega), if_neg (by omega), if_neg (by omega), if_neg (by omega), if_neg (by omega)]), ⟨wm, lf, rt, ws, rw, pt, wh, on, tw, wo, wt, il, dr, dn, hM, hwm, hil, hdr, trivial⟩, hf9⟩
  · refine wp_ic (q := 9) dX4_match_8 rfl (by decide) (by decide) (wp_iret dX4_match_9 rfl ?_)
    exact ⟨rI (by unfold spMatch; rw [if_pos (by omega)]), hS, fun _ _ => rfl⟩
theorem ms_can (d : Nat) {h : List mC} {g n sz : Nat} {ch ro pl wi : List Int} (hS : MS h g n sz ch ro pl wi) (hI : Inv n sz ch ro pl wi) {x : Int} (od : List Int) (hW : (0 ≤ x ∧ x < n) → WgOk sz ch pl wi od) : Ct (d + 3) mX4_can [mR g, mI x] h (fun r9 h9 => r9 = some (mI (spCan n sz pl od x)) ∧ MS h9 g n sz ch ro pl wi ∧ ∀ j : Nat, (j < g ∨ g + 14 ≤ j) → h9[j]? = h[j]?) := by
  obtain ⟨wm, lf, rt, ws, rw, pt, wh, on, tw, wo, wt, il, dr, dn, hM, hwm, hil, hdr, hf0⟩ := id hS
  obtain ⟨m0, m1, mch, map, mpl, mwm, mlf, mrt, mws, mrw, mpt, mwh, mon, mtw, mdn, lch, lap, lpl, lwm, llf, lrt, lws, lrw, lpt, lwh, lon, ltw, ldn, m8⟩ := id hM
  show Wp _ mX4_can 0 [mR g, mI x, mU] [] h (0, 0) _
  refine wp_al0 (q := 1) dX4_can_0 rfl (wp_il1 (q := 2) dX4_can_1 rfl (wp_v1I (q := 5) dX4_can_2 rfl q124 (Nat.le_of_ble_eq_true rfl) rfl m0 m1 rfl rfl ((mt_isPlayer 0 hM (by have := hI.hn; omega)).up (by omega)) (wp_ifb_ne (t := 10) (q := 8) dX4_can_5 rfl rfl (fun c5 => ?_) (fun c5 => ?_))))
  · refine wp_al0 (q := 11) dX4_can_10 rfl (wp_v0 (q := 14) dX4_can_11 rfl q133 (Nat.le_of_ble_eq_true rfl) rfl m0 m1 rfl rfl ((mt_spread 0 hM hI.hv (WmO_r hI.hwv hwm)).up (by omega)) (fun r9 h9 e9 => ?_))
    obtain ⟨rfl, ⟨lf, rt, ws, hM, hsp⟩, hf9⟩ := e9
    obtain ⟨m0, m1, mch, map, mpl, mwm, mlf, mrt, mws, mrw, mpt, mwh, mon, mtw, mdn, lch, lap, lpl, lwm, llf, lrt, lws, lrw, lpt, lwh, lon, ltw, ldn, m8⟩ := id hM
    have hnd := fun m a b => spw_nd m8 hI.hv hI.hch hI.hcs hI.hdi hI.hwv hI.hwg hwm hsp (m.toNat + 1) m (Nat.lt_succ_self _) a b
    show Wp _ _ _ _ [] _ _ _
    have k3 := (hsp ((sz : Int) - 2) (by omega) (by omega)).2.2.1
    have hnt := hnd ((sz : Int) - 2) (by omega) (by omega)
    have hn8 := hI.hn
    obtain ⟨q, rfl⟩ := Int.eq_ofNat_of_zero_le (by omega : 0 ≤ x)
    obtain ⟨u, hu⟩ : ∃ u, u = (gI ws ((sz : Int) - 2)).toNat := ⟨_, rfl⟩
    have hu8 : u < 256 := by omega
    have hue : ws.getD ((sz : Int) - 2).toNat 0 = ((u : Nat) : Int) := by show gI ws ((sz : Int) - 2) = _; omega
    have hbt := (bits_all u hu8 q (by omega)).1
    have hWq := hW (by omega)
    have htb := tb_top m8 hI.hdi hnt hWq (p := q) (by omega)
    have hpc := pc_top m8 hI.hv hI.hch hI.hdi hnt hWq
    rw [← hu] at htb hpc
    have hlr := lrA_in m8
    have hod : 0 ≤ odA od (lrA sz) (plO pl sz q) := (hWq.in m8 hI.hch (by omega) (by omega) plO_in.2).1
    refine wp_al0 (q := 15) dX4_can_14 rfl (wp_getf (q := 18) dX4_can_15 rfl f30 m0 m1 rfl (fun z => nomatch z) (wp_al0 (q := 19) dX4_can_18 rfl (wp_getf (q := 22) dX4_can_19 rfl f23 m0 m1 rfl (fun z => nomatch z) (wp_ic (q := 23) dX4_can_22 rfl (by decide) (by decide) (wp_isub (q := 24) dX4_can_23 rfl (by omega) (by omega) (wp_iaload (q := 25) dX4_can_24 rfl mws (by omega) (by omega) ?_))))))
    rw [hue]
    refine wp_is2 (q := 26) dX4_can_25 rfl rfl (wp_il2 (q := 27) dX4_can_26 rfl (wp_il1 (q := 28) dX4_can_27 rfl (wp_ishr _ (q := 29) dX4_can_28 rfl rfl (wp_ic (q := 30) dX4_can_29 rfl (by decide) (by decide) (wp_iand (bI (u.testBit q = true)) (q := 31) dX4_can_30 rfl hbt (wp_if_ne (t := 38) (q := 34) dX4_can_31 rfl rfl (fun c31 => ?_) (fun c31 => ?_)))))))
    · refine wp_il2 (q := 39) dX4_can_38 rfl (wp_s1I (q := 42) dX4_can_39 rfl q141 (Nat.le_of_ble_eq_true rfl) rfl rfl rfl ((mt_many 0 hu8).up (by omega)) (wp_ic (q := 43) dX4_can_42 rfl (by decide) (by decide) (wp_icmp_ne (t := 50) (q := 46) dX4_can_43 rfl rfl (fun c43 => ?_) (fun c43 => ?_))))
      · refine wp_ic (q := 51) dX4_can_50 rfl (by decide) (by decide) (wp_iret dX4_can_51 rfl ?_)
        refine ⟨rI ?_, ⟨wm, lf, rt, ws, rw, pt, wh, on, tw, wo, wt, il, dr, dn, hM, hwm, hil, hdr, trivial⟩, hf9⟩
        unfold spCan
        rw [if_neg (by omega), ← hpc]
        first
          | (have z : ¬ u.testBit q = true := fun z => by rw [bI_t z] at c31; exact absurd c31 (by decide)
             rw [if_pos (by have := fun w => z (htb.mpr w); omega)])
          | (have z : u.testBit q = true := Decidable.byContradiction (fun z => c31 (bI_f z))
             have := htb.mp z
             rw [if_neg (by omega)]
             first
               | rw [if_pos c43]
               | rw [if_neg c43])
      · refine wp_ic (q := 47) dX4_can_46 rfl (by decide) (by decide) (wp_goto (q := 51) dX4_can_47 rfl (wp_iret dX4_can_51 rfl ?_))
        refine ⟨rI ?_, ⟨wm, lf, rt, ws, rw, pt, wh, on, tw, wo, wt, il, dr, dn, hM, hwm, hil, hdr, trivial⟩, hf9⟩
        unfold spCan
        rw [if_neg (by omega), ← hpc]
        first
          | (have z : ¬ u.testBit q = true := fun z => by rw [bI_t z] at c31; exact absurd c31 (by decide)
             rw [if_pos (by have := fun w => z (htb.mpr w); omega)])
          | (have z : u.testBit q = true := Decidable.byContradiction (fun z => c31 (bI_f z))
             have := htb.mp z
             rw [if_neg (by omega)]
             first
               | rw [if_pos c43]
               | rw [if_neg c43])
    · refine wp_ic (q := 35) dX4_can_34 rfl (by decide) (by decide) (wp_goto (q := 51) dX4_can_35 rfl (wp_iret dX4_can_51 rfl ?_))
      refine ⟨rI ?_, ⟨wm, lf, rt, ws, rw, pt, wh, on, tw, wo, wt, il, dr, dn, hM, hwm, hil, hdr, trivial⟩, hf9⟩
      unfold spCan
      rw [if_neg (by omega), ← hpc]
      first
        | (have z : ¬ u.testBit q = true := fun z => by rw [bI_t z] at c31; exact absurd c31 (by decide)
           rw [if_pos (by have := fun w => z (htb.mpr w); omega)])
        | (have z : u.testBit q = true := Decidable.byContradiction (fun z => c31 (bI_f z))
           have := htb.mp z
           rw [if_neg (by omega)]
           first
             | rw [if_pos c43]
             | rw [if_neg c43])
  · refine wp_ic (q := 9) dX4_can_8 rfl (by decide) (by decide) (wp_iret dX4_can_9 rfl ?_)
    exact ⟨rI (by unfold spCan; rw [if_pos (by omega)]), hS, fun _ _ => rfl⟩
theorem ms_won (d : Nat) {h : List mC} {g n sz : Nat} {ch ro pl wi : List Int} (hS : MS h g n sz ch ro pl wi) (hI : Inv n sz ch ro pl wi) {m x : Int} (od : List Int) (hW : ((0 ≤ m ∧ m < (sz : Int) - 1) ∧ (0 ≤ x ∧ x < n)) → WgOk sz ch pl wi od) : Ct (d + 4) mX4_won [mR g, mI m, mI x] h (fun r9 h9 => r9 = some (mI (spWon n sz pl wi od m x)) ∧ (if ((0 ≤ m ∧ m < (sz : Int) - 1) ∧ (0 ≤ x ∧ x < n)) ∧ mbA pl wi od sz m ∧ ccA od sz m (plO pl sz x) then MS h9 g n sz ch ro pl (sI wi m x) else MS h9 g n sz ch ro pl wi) ∧ ∀ j : Nat, (j < g ∨ g + 14 ≤ j) → h9[j]? = h[j]?) := by
  obtain ⟨wm, lf, rt, ws, rw, pt, wh, on, tw, wo, wt, il, dr, dn, hM, hwm, hil, hdr, hf0⟩ := id hS
  obtain ⟨m0, m1, mch, map, mpl, mwm, mlf, mrt, mws, mrw, mpt, mwh, mon, mtw, mdn, lch, lap, lpl, lwm, llf, lrt, lws, lrw, lpt, lwh, lon, ltw, ldn, m8⟩ := id hM
  show Wp _ mX4_won 0 [mR g, mI m, mI x, mU, mU, mU] [] h (0, 0) _
  refine wp_al0 (q := 1) dX4_won_0 rfl (wp_il1 (q := 2) dX4_won_1 rfl (wp_v1I (q := 5) dX4_won_2 rfl q132 (Nat.le_of_ble_eq_true rfl) rfl m0 m1 rfl rfl ((mt_isMatch 0 hM).up (by omega)) (wp_ifb_eq (t := 16) (q := 8) dX4_won_5 rfl rfl (fun c5 => ?_) (fun c5 => ?_))))
  · refine wp_ic (q := 17) dX4_won_16 rfl (by decide) (by decide) (wp_iret dX4_won_17 rfl ?_)
    refine ⟨rI (by unfold spWon; rw [if_pos (by omega)]), ?_, fun _ _ => rfl⟩
    rw [if_neg (fun z => by have := z.1; omega)]
    exact hS
  · refine wp_al0 (q := 9) dX4_won_8 rfl (wp_il2 (q := 10) dX4_won_9 rfl (wp_v1I (q := 13) dX4_won_10 rfl q124 (Nat.le_of_ble_eq_true rfl) rfl m0 m1 rfl rfl ((mt_isPlayer 0 hM (by have := hI.hn; omega)).up (by omega)) (wp_ifb_ne (t := 18) (q := 16) dX4_won_13 rfl rfl (fun c13 => ?_) (fun c13 => ?_))))
    · refine wp_al0 (q := 19) dX4_won_18 rfl (wp_v0 (q := 22) dX4_won_19 rfl q133 (Nat.le_of_ble_eq_true rfl) rfl m0 m1 rfl rfl ((mt_spread 0 hM hI.hv (WmO_r hI.hwv hwm)).up (by omega)) (fun r9 h9 e9 => ?_))
      obtain ⟨rfl, ⟨lf, rt, ws, hM, hsp⟩, hf9⟩ := e9
      obtain ⟨m0, m1, mch, map, mpl, mwm, mlf, mrt, mws, mrw, mpt, mwh, mon, mtw, mdn, lch, lap, lpl, lwm, llf, lrt, lws, lrw, lpt, lwh, lon, ltw, ldn, m8⟩ := id hM
      have hnd := fun m a b => spw_nd m8 hI.hv hI.hch hI.hcs hI.hdi hI.hwv hI.hwg hwm hsp (m.toNat + 1) m (Nat.lt_succ_self _) a b
      show Wp _ _ _ _ [] _ _ _
      have v1 : 0 ≤ m := by omega
      have v2 : m < (sz : Int) - 1 := by omega
      have hn8 := hI.hn
      have hlr := lrA_in m8
      obtain ⟨i1, i2, i3, i4, i5, i6⟩ := rd_ix m8 v1 v2
      have ix : Nat → rdO sz m ≠ 1 → fmA sz (rdO sz m - 1) + 2 * (m - fmA sz (rdO sz m)) = 2 * m - sz ∧ fmA sz (rdO sz m - 1) + 2 * (m - fmA sz (rdO sz m)) + 1 = 2 * m + 1 - sz := fun _ z => by have := i6 z; omega
      have kc : Nat → rdO sz m ≠ 1 → 0 ≤ fmA sz (rdO sz m - 1) ∧ fmA sz (rdO sz m - 1) ≤ 8 ∧ (sz : Int) ≤ 2 * m ∧ 2 * m + 1 - sz < m := fun _ z => (i6 z).2
      have kk : Nat → rdO sz m ≠ 1 → mk8 (gI lf (2 * m - sz)) ∧ mk8 (gI rt (2 * m - sz)) ∧ mk8 (gI lf (2 * m + 1 - sz)) ∧ mk8 (gI rt (2 * m + 1 - sz)) := fun _ z => by
        have := i6 z
        have a := hsp (2 * m - sz) (by omega) (by omega)
        have b := hsp (2 * m + 1 - sz) (by omega) (by omega)
        exact ⟨a.1, a.2.1, b.1, b.2.1⟩
      have k1 := (hsp m v1 v2).1
      have k2 := (hsp m v1 v2).2.1
      obtain ⟨q, rfl⟩ := Int.eq_ofNat_of_zero_le (by omega : 0 ≤ x)
      have hWq := hW (by omega)
      have hkd := sr_kd m8 hI.hwv hwm v1 v2 (hnd m v1 v2) k1 k2
      have hcc := tb_cc m8 hI.hdi v1 v2 (hnd m v1 v2) hWq (p := q) (by omega)
      have hbt := (bits_all _ (orM_lt k1 k2) q (by omega)).1
      have hst : Nat → rdO sz m ≠ 1 → ∀ e : Int, 0 ≤ e → e < (sz : Int) - 1 → mk8 (gI lf e) → mk8 (gI rt e) → (stB (srM (gI lf e) (gI rt e) (gI wm e)) (pcN ((gI lf e).toNat ||| (gI rt e).toNat)) ↔ stA pl wi od sz e) := fun _ z e e0 e1 a b => by
        rw [sr_kd m8 hI.hwv hwm e0 e1 (hnd e e0 e1) a b, pc_cm m8 hI.hv hI.hch hI.hdi e0 e1 (hnd e e0 e1) hWq]
        have h4 : kdA pl wi sz e = 0 ∨ kdA pl wi sz e = 1 ∨ kdA pl wi sz e = 2 ∨ kdA pl wi sz e = 3 := by unfold kdA; (repeat' split) <;> omega
        unfold stB stA
        omega
      have s1 : Nat → rdO sz m ≠ 1 → (stB (srM (gI lf (2 * m - sz)) (gI rt (2 * m - sz)) (gI wm (2 * m - sz))) (pcN ((gI lf (2 * m - sz)).toNat ||| (gI rt (2 * m - sz)).toNat)) ↔ stA pl wi od sz (2 * m - sz)) := fun _ z => by have := kc 0 z; exact hst 0 z _ (by omega) (by omega) (kk 0 z).1 (kk 0 z).2.1
      have s2 : Nat → rdO sz m ≠ 1 → (stB (srM (gI lf (2 * m + 1 - sz)) (gI rt (2 * m + 1 - sz)) (gI wm (2 * m + 1 - sz))) (pcN ((gI lf (2 * m + 1 - sz)).toNat ||| (gI rt (2 * m + 1 - sz)).toNat)) ↔ stA pl wi od sz (2 * m + 1 - sz)) := fun _ z => by have := kc 0 z; exact hst 0 z _ (by omega) (by omega) (kk 0 z).2.2.1 (kk 0 z).2.2.2
      have s0 : Nat → rdO sz m = 1 → stA pl wi od sz (2 * m - sz) ∧ stA pl wi od sz (2 * m + 1 - sz) := fun _ z => by have := i5 z; exact ⟨Or.inl (by omega), Or.inl (by omega)⟩
      clear i5 i6
      obtain ⟨u, hu⟩ : ∃ u, u = (gI lf m).toNat ||| (gI rt m).toNat := ⟨_, rfl⟩
      have hor : mOr (lf.getD m.toNat 0) (rt.getD m.toNat 0) = ((u : Nat) : Int) := by rw [hu]; exact orM k1 k2
      rw [← hu] at hbt hcc
      refine wp_al0 (q := 23) dX4_won_22 rfl (wp_il1 (q := 24) dX4_won_23 rfl (wp_v1I (q := 27) dX4_won_24 rfl q134 (Nat.le_of_ble_eq_true rfl) rfl m0 m1 rfl rfl ((mt_roundOf 0 hM v1 v2).up (by omega)) (wp_is3 (q := 28) dX4_won_27 rfl rfl (wp_il1 (q := 29) dX4_won_28 rfl (wp_al0 (q := 30) dX4_won_29 rfl (wp_il3 (q := 31) dX4_won_30 rfl (wp_v1I (q := 34) dX4_won_31 rfl q136 (Nat.le_of_ble_eq_true rfl) rfl m0 m1 rfl rfl ((mt_startOf 0 hM i1 i2).up (by omega)) (wp_isub (q := 35) dX4_won_34 rfl (by omega) (by omega) (wp_is4 (q := 37) dX4_won_35 rfl rfl (wp_il3 (q := 38) dX4_won_37 rfl (wp_ic (q := 39) dX4_won_38 rfl (by decide) (by decide) (wp_icmp_eq (t := 82) (q := 42) dX4_won_39 rfl rfl (fun c39 => ?_) (fun c39 => ?_)))))))))))))
      · refine wp_ic (q := 83) dX4_won_82 rfl (by decide) (by decide) (wp_goto (q := 87) dX4_won_83 rfl (wp_is5 (q := 89) dX4_won_87 rfl rfl (wp_al0 (q := 90) dX4_won_89 rfl (wp_il1 (q := 91) dX4_won_90 rfl (wp_v1I (q := 94) dX4_won_91 rfl q140 (Nat.le_of_ble_eq_true rfl) rfl m0 m1 rfl rfl ((mt_sort 0 hM v1 (by omega) k1 k2).up (by omega)) (wp_ic (q := 95) dX4_won_94 rfl (by decide) (by decide) (wp_icmp_ne (t := 123) (q := 98) dX4_won_95 rfl rfl (fun c95 => ?_) (fun c95 => ?_))))))))
        · refine wp_bi (q := 125) dX4_won_123 rfl (by decide) (by decide) (wp_iret dX4_won_125 rfl ?_)
          first
            | exact absurd c100 (by decide)
            | (have no : ¬ (mbA pl wi od sz m ∧ ccA od sz m (plO pl sz q)) := by
                 rintro ⟨⟨z1, z2, z3⟩, z4⟩
                 first
                   | exact c95 (hkd.trans z1)
                   | exact c58 ((s1 0 c39).mpr z2)
                   | exact c79 ((s2 0 c39).mpr z3)
                   | (rw [bI_t (hcc.mpr z4)] at c120; exact absurd c120 (by decide))
               refine ⟨rI (by unfold spWon; rw [if_neg (by omega), if_pos no]), ?_, hf9⟩
               rw [if_neg (fun z => no z.2)]
               exact ⟨wm, lf, rt, ws, rw, pt, wh, on, tw, wo, wt, il, dr, dn, hM, hwm, hil, hdr, trivial⟩)
        · refine wp_il5 (q := 100) dX4_won_98 rfl (wp_if_eq (t := 123) (q := 103) dX4_won_100 rfl rfl (fun c100 => ?_) (fun c100 => ?_))
          · refine wp_bi (q := 125) dX4_won_123 rfl (by decide) (by decide) (wp_iret dX4_won_125 rfl ?_)
            first
              | exact absurd c100 (by decide)
              | (have no : ¬ (mbA pl wi od sz m ∧ ccA od sz m (plO pl sz q)) := by
                   rintro ⟨⟨z1, z2, z3⟩, z4⟩
                   first
                     | exact c95 (hkd.trans z1)
                     | exact c58 ((s1 0 c39).mpr z2)
                     | exact c79 ((s2 0 c39).mpr z3)
                     | (rw [bI_t (hcc.mpr z4)] at c120; exact absurd c120 (by decide))
                 refine ⟨rI (by unfold spWon; rw [if_neg (by omega), if_pos no]), ?_, hf9⟩
                 rw [if_neg (fun z => no z.2)]
                 exact ⟨wm, lf, rt, ws, rw, pt, wh, on, tw, wo, wt, il, dr, dn, hM, hwm, hil, hdr, trivial⟩)
          · refine wp_al0 (q := 104) dX4_won_103 rfl (wp_getf (q := 107) dX4_won_104 rfl f28 m0 m1 rfl (fun z => nomatch z) (wp_il1 (q := 108) dX4_won_107 rfl (wp_iaload (q := 109) dX4_won_108 rfl mlf (by omega) (by omega) (wp_al0 (q := 110) dX4_won_109 rfl (wp_getf (q := 113) dX4_won_110 rfl f29 m0 m1 rfl (fun z => nomatch z) (wp_il1 (q := 114) dX4_won_113 rfl (wp_iaload (q := 115) dX4_won_114 rfl mrt (by omega) (by omega) (wp_ior _ (q := 116) dX4_won_115 rfl rfl ?_))))))))
            rw [hor]
            refine wp_il2 (q := 117) dX4_won_116 rfl (wp_ishr _ (q := 118) dX4_won_117 rfl rfl (wp_ic (q := 119) dX4_won_118 rfl (by decide) (by decide) (wp_iand (bI (u.testBit q = true)) (q := 120) dX4_won_119 rfl hbt (wp_if_ne (t := 126) (q := 123) dX4_won_120 rfl rfl (fun c120 => ?_) (fun c120 => ?_)))))
            · refine wp_al0 (q := 127) dX4_won_126 rfl (wp_getf (q := 130) dX4_won_127 rfl f27 m0 m1 rfl (fun z => nomatch z) (wp_il1 (q := 131) dX4_won_130 rfl (wp_il2 (q := 132) dX4_won_131 rfl (wp_iastore (q := 133) dX4_won_132 rfl (by omega) mwm (by omega) (by omega) ?_))))
              have lwm0 := lwm
              have hM := hM.sWm (x := sI wm m q) ((sI_len _ _ _).trans lwm)
              obtain ⟨m0, m1, mch, map, mpl, mwm, mlf, mrt, mws, mrw, mpt, mwh, mon, mtw, mdn, lch, lap, lpl, lwm, llf, lrt, lws, lrw, lpt, lwh, lon, ltw, ldn, m8⟩ := id hM
              refine wp_al0 (q := 134) dX4_won_133 rfl (wp_v0I (q := 137) dX4_won_134 rfl q142 (Nat.le_of_ble_eq_true rfl) rfl m0 m1 rfl rfl ((mt_decided 0 hM).up (by omega)) (wp_iret dX4_won_137 rfl ?_))
              first
                | exact absurd rfl c100
                | (have t1 : u.testBit q = true := Decidable.byContradiction (fun z => c120 (bI_f z))
                   have yes : mbA pl wi od sz m ∧ ccA od sz m (plO pl sz q) := by
                     refine ⟨⟨hkd.symm.trans c95, ?_⟩, hcc.mp t1⟩
                     first
                       | exact s0 0 c39
                       | exact ⟨(s1 0 c39).mp c58, (s2 0 c39).mp c79⟩
                   have hq8 : tld (q : Int) = q := by unfold tld; rw [if_neg (by omega)]
                   have hw2 := WmO_set (v := q) (x := m) hwm hI.wil lwm0 v1 (by omega)
                   rw [hq8] at hw2
                   refine ⟨rI ?_, ?_, fun j hj => by rw [fr_set (by omega)]; exact hf9 j hj⟩
                   · unfold spWon
                     rw [if_neg (by omega), if_neg (fun z => z yes)]
                     refine dcW m8 (fun y y0 y1 => ?_) (v8_set hI.hwv (by omega) (by omega)) hw2
                     have := hI.hwt y y0 y1
                     unfold rd8 at this ⊢
                     rw [if_pos (by omega)] at this ⊢
                     rw [gI_ne v1 (by omega) (by omega)]
                     exact this
                   · rw [if_pos ⟨by omega, yes⟩]
                     exact ⟨_, lf, rt, ws, rw, pt, wh, on, tw, wo, wt, il, dr, dn, hM, hw2, hil, hdr, trivial⟩)
            · refine wp_bi (q := 125) dX4_won_123 rfl (by decide) (by decide) (wp_iret dX4_won_125 rfl ?_)
              first
                | exact absurd c100 (by decide)
                | (have no : ¬ (mbA pl wi od sz m ∧ ccA od sz m (plO pl sz q)) := by
                     rintro ⟨⟨z1, z2, z3⟩, z4⟩
                     first
                       | exact c95 (hkd.trans z1)
                       | exact c58 ((s1 0 c39).mpr z2)
                       | exact c79 ((s2 0 c39).mpr z3)
                       | (rw [bI_t (hcc.mpr z4)] at c120; exact absurd c120 (by decide))
                   refine ⟨rI (by unfold spWon; rw [if_neg (by omega), if_pos no]), ?_, hf9⟩
                   rw [if_neg (fun z => no z.2)]
                   exact ⟨wm, lf, rt, ws, rw, pt, wh, on, tw, wo, wt, il, dr, dn, hM, hwm, hil, hdr, trivial⟩)
      · have kc2 := kc 0 c39
        refine wp_al0 (q := 43) dX4_won_42 rfl (wp_al0 (q := 44) dX4_won_43 rfl (wp_il3 (q := 45) dX4_won_44 rfl (wp_ic (q := 46) dX4_won_45 rfl (by decide) (by decide) (wp_isub (q := 47) dX4_won_46 rfl (by omega) (by omega) (wp_v1I (q := 50) dX4_won_47 rfl q136 (Nat.le_of_ble_eq_true rfl) rfl m0 m1 rfl rfl ((mt_startOf 0 hM (by omega) (by omega)).up (by omega)) (wp_ic (q := 51) dX4_won_50 rfl (by decide) (by decide) (wp_il4 (q := 53) dX4_won_51 rfl (wp_imul (q := 54) dX4_won_53 rfl (by omega) (by omega) (wp_iadd (q := 55) dX4_won_54 rfl (by omega) (by omega) ?_)))))))))
        rw [(ix 0 c39).1]
        refine wp_v1I (q := 58) dX4_won_55 rfl q139 (Nat.le_of_ble_eq_true rfl) rfl m0 m1 rfl rfl (by have z := (mt_isSettled 0 hM (x := 2 * m - sz) (by omega) (by omega) (kk 0 c39).1 (kk 0 c39).2.1).up (D := d + 3) (by omega); rw [← (ix 0 c39).1] at z; rw [(ix 0 c39).1] at z; exact z) (wp_ifb_eq (t := 86) (q := 61) dX4_won_58 rfl rfl (fun c58 => ?_) (fun c58 => ?_))
        · refine wp_ic (q := 87) dX4_won_86 rfl (by decide) (by decide) (wp_is5 (q := 89) dX4_won_87 rfl rfl (wp_al0 (q := 90) dX4_won_89 rfl (wp_il1 (q := 91) dX4_won_90 rfl (wp_v1I (q := 94) dX4_won_91 rfl q140 (Nat.le_of_ble_eq_true rfl) rfl m0 m1 rfl rfl ((mt_sort 0 hM v1 (by omega) k1 k2).up (by omega)) (wp_ic (q := 95) dX4_won_94 rfl (by decide) (by decide) (wp_icmp_ne (t := 123) (q := 98) dX4_won_95 rfl rfl (fun c95 => ?_) (fun c95 => ?_)))))))
          · refine wp_bi (q := 125) dX4_won_123 rfl (by decide) (by decide) (wp_iret dX4_won_125 rfl ?_)
            first
              | exact absurd c100 (by decide)
              | (have no : ¬ (mbA pl wi od sz m ∧ ccA od sz m (plO pl sz q)) := by
                   rintro ⟨⟨z1, z2, z3⟩, z4⟩
                   first
                     | exact c95 (hkd.trans z1)
                     | exact c58 ((s1 0 c39).mpr z2)
                     | exact c79 ((s2 0 c39).mpr z3)
                     | (rw [bI_t (hcc.mpr z4)] at c120; exact absurd c120 (by decide))
                 refine ⟨rI (by unfold spWon; rw [if_neg (by omega), if_pos no]), ?_, hf9⟩
                 rw [if_neg (fun z => no z.2)]
                 exact ⟨wm, lf, rt, ws, rw, pt, wh, on, tw, wo, wt, il, dr, dn, hM, hwm, hil, hdr, trivial⟩)
          · refine wp_il5 (q := 100) dX4_won_98 rfl (wp_if_eq (t := 123) (q := 103) dX4_won_100 rfl rfl (fun c100 => ?_) (fun c100 => ?_))
            · refine wp_bi (q := 125) dX4_won_123 rfl (by decide) (by decide) (wp_iret dX4_won_125 rfl ?_)
              first
                | exact absurd c100 (by decide)
                | (have no : ¬ (mbA pl wi od sz m ∧ ccA od sz m (plO pl sz q)) := by
                     rintro ⟨⟨z1, z2, z3⟩, z4⟩
                     first
                       | exact c95 (hkd.trans z1)
                       | exact c58 ((s1 0 c39).mpr z2)
                       | exact c79 ((s2 0 c39).mpr z3)
                       | (rw [bI_t (hcc.mpr z4)] at c120; exact absurd c120 (by decide))
                   refine ⟨rI (by unfold spWon; rw [if_neg (by omega), if_pos no]), ?_, hf9⟩
                   rw [if_neg (fun z => no z.2)]
                   exact ⟨wm, lf, rt, ws, rw, pt, wh, on, tw, wo, wt, il, dr, dn, hM, hwm, hil, hdr, trivial⟩)
            · refine wp_al0 (q := 104) dX4_won_103 rfl (wp_getf (q := 107) dX4_won_104 rfl f28 m0 m1 rfl (fun z => nomatch z) (wp_il1 (q := 108) dX4_won_107 rfl (wp_iaload (q := 109) dX4_won_108 rfl mlf (by omega) (by omega) (wp_al0 (q := 110) dX4_won_109 rfl (wp_getf (q := 113) dX4_won_110 rfl f29 m0 m1 rfl (fun z => nomatch z) (wp_il1 (q := 114) dX4_won_113 rfl (wp_iaload (q := 115) dX4_won_114 rfl mrt (by omega) (by omega) (wp_ior _ (q := 116) dX4_won_115 rfl rfl ?_))))))))
              rw [hor]
              refine wp_il2 (q := 117) dX4_won_116 rfl (wp_ishr _ (q := 118) dX4_won_117 rfl rfl (wp_ic (q := 119) dX4_won_118 rfl (by decide) (by decide) (wp_iand (bI (u.testBit q = true)) (q := 120) dX4_won_119 rfl hbt (wp_if_ne (t := 126) (q := 123) dX4_won_120 rfl rfl (fun c120 => ?_) (fun c120 => ?_)))))
              · refine wp_al0 (q := 127) dX4_won_126 rfl (wp_getf (q := 130) dX4_won_127 rfl f27 m0 m1 rfl (fun z => nomatch z) (wp_il1 (q := 131) dX4_won_130 rfl (wp_il2 (q := 132) dX4_won_131 rfl (wp_iastore (q := 133) dX4_won_132 rfl (by omega) mwm (by omega) (by omega) ?_))))
                have lwm0 := lwm
                have hM := hM.sWm (x := sI wm m q) ((sI_len _ _ _).trans lwm)
                obtain ⟨m0, m1, mch, map, mpl, mwm, mlf, mrt, mws, mrw, mpt, mwh, mon, mtw, mdn, lch, lap, lpl, lwm, llf, lrt, lws, lrw, lpt, lwh, lon, ltw, ldn, m8⟩ := id hM
                refine wp_al0 (q := 134) dX4_won_133 rfl (wp_v0I (q := 137) dX4_won_134 rfl q142 (Nat.le_of_ble_eq_true rfl) rfl m0 m1 rfl rfl ((mt_decided 0 hM).up (by omega)) (wp_iret dX4_won_137 rfl ?_))
                first
                  | exact absurd rfl c100
                  | (have t1 : u.testBit q = true := Decidable.byContradiction (fun z => c120 (bI_f z))
                     have yes : mbA pl wi od sz m ∧ ccA od sz m (plO pl sz q) := by
                       refine ⟨⟨hkd.symm.trans c95, ?_⟩, hcc.mp t1⟩
                       first
                         | exact s0 0 c39
                         | exact ⟨(s1 0 c39).mp c58, (s2 0 c39).mp c79⟩
                     have hq8 : tld (q : Int) = q := by unfold tld; rw [if_neg (by omega)]
                     have hw2 := WmO_set (v := q) (x := m) hwm hI.wil lwm0 v1 (by omega)
                     rw [hq8] at hw2
                     refine ⟨rI ?_, ?_, fun j hj => by rw [fr_set (by omega)]; exact hf9 j hj⟩
                     · unfold spWon
                       rw [if_neg (by omega), if_neg (fun z => z yes)]
                       refine dcW m8 (fun y y0 y1 => ?_) (v8_set hI.hwv (by omega) (by omega)) hw2
                       have := hI.hwt y y0 y1
                       unfold rd8 at this ⊢
                       rw [if_pos (by omega)] at this ⊢
                       rw [gI_ne v1 (by omega) (by omega)]
                       exact this
                     · rw [if_pos ⟨by omega, yes⟩]
                       exact ⟨_, lf, rt, ws, rw, pt, wh, on, tw, wo, wt, il, dr, dn, hM, hw2, hil, hdr, trivial⟩)
              · refine wp_bi (q := 125) dX4_won_123 rfl (by decide) (by decide) (wp_iret dX4_won_125 rfl ?_)
                first
                  | exact absurd c100 (by decide)
                  | (have no : ¬ (mbA pl wi od sz m ∧ ccA od sz m (plO pl sz q)) := by
                       rintro ⟨⟨z1, z2, z3⟩, z4⟩
                       first
                         | exact c95 (hkd.trans z1)
                         | exact c58 ((s1 0 c39).mpr z2)
                         | exact c79 ((s2 0 c39).mpr z3)
                         | (rw [bI_t (hcc.mpr z4)] at c120; exact absurd c120 (by decide))
                     refine ⟨rI (by unfold spWon; rw [if_neg (by omega), if_pos no]), ?_, hf9⟩
                     rw [if_neg (fun z => no z.2)]
                     exact ⟨wm, lf, rt, ws, rw, pt, wh, on, tw, wo, wt, il, dr, dn, hM, hwm, hil, hdr, trivial⟩)
        · refine wp_al0 (q := 62) dX4_won_61 rfl (wp_al0 (q := 63) dX4_won_62 rfl (wp_il3 (q := 64) dX4_won_63 rfl (wp_ic (q := 65) dX4_won_64 rfl (by decide) (by decide) (wp_isub (q := 66) dX4_won_65 rfl (by omega) (by omega) (wp_v1I (q := 69) dX4_won_66 rfl q136 (Nat.le_of_ble_eq_true rfl) rfl m0 m1 rfl rfl ((mt_startOf 0 hM (by omega) (by omega)).up (by omega)) (wp_ic (q := 70) dX4_won_69 rfl (by decide) (by decide) (wp_il4 (q := 72) dX4_won_70 rfl (wp_imul (q := 73) dX4_won_72 rfl (by omega) (by omega) (wp_iadd (q := 74) dX4_won_73 rfl (by omega) (by omega) (wp_ic (q := 75) dX4_won_74 rfl (by decide) (by decide) (wp_iadd (q := 76) dX4_won_75 rfl (by omega) (by omega) ?_)))))))))))
          rw [(ix 0 c39).2]
          refine wp_v1I (q := 79) dX4_won_76 rfl q139 (Nat.le_of_ble_eq_true rfl) rfl m0 m1 rfl rfl ((mt_isSettled 0 hM (x := 2 * m + 1 - sz) (by omega) (by omega) (kk 0 c39).2.2.1 (kk 0 c39).2.2.2).up (by omega)) (wp_ifb_eq (t := 86) (q := 82) dX4_won_79 rfl rfl (fun c79 => ?_) (fun c79 => ?_))
          · refine wp_ic (q := 87) dX4_won_86 rfl (by decide) (by decide) (wp_is5 (q := 89) dX4_won_87 rfl rfl (wp_al0 (q := 90) dX4_won_89 rfl (wp_il1 (q := 91) dX4_won_90 rfl (wp_v1I (q := 94) dX4_won_91 rfl q140 (Nat.le_of_ble_eq_true rfl) rfl m0 m1 rfl rfl ((mt_sort 0 hM v1 (by omega) k1 k2).up (by omega)) (wp_ic (q := 95) dX4_won_94 rfl (by decide) (by decide) (wp_icmp_ne (t := 123) (q := 98) dX4_won_95 rfl rfl (fun c95 => ?_) (fun c95 => ?_)))))))
            · refine wp_bi (q := 125) dX4_won_123 rfl (by decide) (by decide) (wp_iret dX4_won_125 rfl ?_)
              first
                | exact absurd c100 (by decide)
                | (have no : ¬ (mbA pl wi od sz m ∧ ccA od sz m (plO pl sz q)) := by
                     rintro ⟨⟨z1, z2, z3⟩, z4⟩
                     first
                       | exact c95 (hkd.trans z1)
                       | exact c58 ((s1 0 c39).mpr z2)
                       | exact c79 ((s2 0 c39).mpr z3)
                       | (rw [bI_t (hcc.mpr z4)] at c120; exact absurd c120 (by decide))
                   refine ⟨rI (by unfold spWon; rw [if_neg (by omega), if_pos no]), ?_, hf9⟩
                   rw [if_neg (fun z => no z.2)]
                   exact ⟨wm, lf, rt, ws, rw, pt, wh, on, tw, wo, wt, il, dr, dn, hM, hwm, hil, hdr, trivial⟩)
            · refine wp_il5 (q := 100) dX4_won_98 rfl (wp_if_eq (t := 123) (q := 103) dX4_won_100 rfl rfl (fun c100 => ?_) (fun c100 => ?_))
              · refine wp_bi (q := 125) dX4_won_123 rfl (by decide) (by decide) (wp_iret dX4_won_125 rfl ?_)
                first
                  | exact absurd c100 (by decide)
                  | (have no : ¬ (mbA pl wi od sz m ∧ ccA od sz m (plO pl sz q)) := by
                       rintro ⟨⟨z1, z2, z3⟩, z4⟩
                       first
                         | exact c95 (hkd.trans z1)
                         | exact c58 ((s1 0 c39).mpr z2)
                         | exact c79 ((s2 0 c39).mpr z3)
                         | (rw [bI_t (hcc.mpr z4)] at c120; exact absurd c120 (by decide))
                     refine ⟨rI (by unfold spWon; rw [if_neg (by omega), if_pos no]), ?_, hf9⟩
                     rw [if_neg (fun z => no z.2)]
                     exact ⟨wm, lf, rt, ws, rw, pt, wh, on, tw, wo, wt, il, dr, dn, hM, hwm, hil, hdr, trivial⟩)
              · refine wp_al0 (q := 104) dX4_won_103 rfl (wp_getf (q := 107) dX4_won_104 rfl f28 m0 m1 rfl (fun z => nomatch z) (wp_il1 (q := 108) dX4_won_107 rfl (wp_iaload (q := 109) dX4_won_108 rfl mlf (by omega) (by omega) (wp_al0 (q := 110) dX4_won_109 rfl (wp_getf (q := 113) dX4_won_110 rfl f29 m0 m1 rfl (fun z => nomatch z) (wp_il1 (q := 114) dX4_won_113 rfl (wp_iaload (q := 115) dX4_won_114 rfl mrt (by omega) (by omega) (wp_ior _ (q := 116) dX4_won_115 rfl rfl ?_))))))))
                rw [hor]
                refine wp_il2 (q := 117) dX4_won_116 rfl (wp_ishr _ (q := 118) dX4_won_117 rfl rfl (wp_ic (q := 119) dX4_won_118 rfl (by decide) (by decide) (wp_iand (bI (u.testBit q = true)) (q := 120) dX4_won_119 rfl hbt (wp_if_ne (t := 126) (q := 123) dX4_won_120 rfl rfl (fun c120 => ?_) (fun c120 => ?_)))))
                · refine wp_al0 (q := 127) dX4_won_126 rfl (wp_getf (q := 130) dX4_won_127 rfl f27 m0 m1 rfl (fun z => nomatch z) (wp_il1 (q := 131) dX4_won_130 rfl (wp_il2 (q := 132) dX4_won_131 rfl (wp_iastore (q := 133) dX4_won_132 rfl (by omega) mwm (by omega) (by omega) ?_))))
                  have lwm0 := lwm
                  have hM := hM.sWm (x := sI wm m q) ((sI_len _ _ _).trans lwm)
                  obtain ⟨m0, m1, mch, map, mpl, mwm, mlf, mrt, mws, mrw, mpt, mwh, mon, mtw, mdn, lch, lap, lpl, lwm, llf, lrt, lws, lrw, lpt, lwh, lon, ltw, ldn, m8⟩ := id hM
                  refine wp_al0 (q := 134) dX4_won_133 rfl (wp_v0I (q := 137) dX4_won_134 rfl q142 (Nat.le_of_ble_eq_true rfl) rfl m0 m1 rfl rfl ((mt_decided 0 hM).up (by omega)) (wp_iret dX4_won_137 rfl ?_))
                  first
                    | exact absurd rfl c100
                    | (have t1 : u.testBit q = true := Decidable.byContradiction (fun z => c120 (bI_f z))
                       have yes : mbA pl wi od sz m ∧ ccA od sz m (plO pl sz q) := by
                         refine ⟨⟨hkd.symm.trans c95, ?_⟩, hcc.mp t1⟩
                         first
                           | exact s0 0 c39
                           | exact ⟨(s1 0 c39).mp c58, (s2 0 c39).mp c79⟩
                       have hq8 : tld (q : Int) = q := by unfold tld; rw [if_neg (by omega)]
                       have hw2 := WmO_set (v := q) (x := m) hwm hI.wil lwm0 v1 (by omega)
                       rw [hq8] at hw2
                       refine ⟨rI ?_, ?_, fun j hj => by rw [fr_set (by omega)]; exact hf9 j hj⟩
                       · unfold spWon
                         rw [if_neg (by omega), if_neg (fun z => z yes)]
                         refine dcW m8 (fun y y0 y1 => ?_) (v8_set hI.hwv (by omega) (by omega)) hw2
                         have := hI.hwt y y0 y1
                         unfold rd8 at this ⊢
                         rw [if_pos (by omega)] at this ⊢
                         rw [gI_ne v1 (by omega) (by omega)]
                         exact this
                       · rw [if_pos ⟨by omega, yes⟩]
                         exact ⟨_, lf, rt, ws, rw, pt, wh, on, tw, wo, wt, il, dr, dn, hM, hw2, hil, hdr, trivial⟩)
                · refine wp_bi (q := 125) dX4_won_123 rfl (by decide) (by decide) (wp_iret dX4_won_125 rfl ?_)
                  first
                    | exact absurd c100 (by decide)
                    | (have no : ¬ (mbA pl wi od sz m ∧ ccA od sz m (plO pl sz q)) := by
                         rintro ⟨⟨z1, z2, z3⟩, z4⟩
                         first
                           | exact c95 (hkd.trans z1)
                           | exact c58 ((s1 0 c39).mpr z2)
                           | exact c79 ((s2 0 c39).mpr z3)
                           | (rw [bI_t (hcc.mpr z4)] at c120; exact absurd c120 (by decide))
                       refine ⟨rI (by unfold spWon; rw [if_neg (by omega), if_pos no]), ?_, hf9⟩
                       rw [if_neg (fun z => no z.2)]
                       exact ⟨wm, lf, rt, ws, rw, pt, wh, on, tw, wo, wt, il, dr, dn, hM, hwm, hil, hdr, trivial⟩)
          · refine wp_ic (q := 83) dX4_won_82 rfl (by decide) (by decide) (wp_goto (q := 87) dX4_won_83 rfl (wp_is5 (q := 89) dX4_won_87 rfl rfl (wp_al0 (q := 90) dX4_won_89 rfl (wp_il1 (q := 91) dX4_won_90 rfl (wp_v1I (q := 94) dX4_won_91 rfl q140 (Nat.le_of_ble_eq_true rfl) rfl m0 m1 rfl rfl ((mt_sort 0 hM v1 (by omega) k1 k2).up (by omega)) (wp_ic (q := 95) dX4_won_94 rfl (by decide) (by decide) (wp_icmp_ne (t := 123) (q := 98) dX4_won_95 rfl rfl (fun c95 => ?_) (fun c95 => ?_))))))))
            · refine wp_bi (q := 125) dX4_won_123 rfl (by decide) (by decide) (wp_iret dX4_won_125 rfl ?_)
              first
                | exact absurd c100 (by decide)
                | (have no : ¬ (mbA pl wi od sz m ∧ ccA od sz m (plO pl sz q)) := by
                     rintro ⟨⟨z1, z2, z3⟩, z4⟩
                     first
                       | exact c95 (hkd.trans z1)
                       | exact c58 ((s1 0 c39).mpr z2)
                       | exact c79 ((s2 0 c39).mpr z3)
                       | (rw [bI_t (hcc.mpr z4)] at c120; exact absurd c120 (by decide))
                   refine ⟨rI (by unfold spWon; rw [if_neg (by omega), if_pos no]), ?_, hf9⟩
                   rw [if_neg (fun z => no z.2)]
                   exact ⟨wm, lf, rt, ws, rw, pt, wh, on, tw, wo, wt, il, dr, dn, hM, hwm, hil, hdr, trivial⟩)
            · refine wp_il5 (q := 100) dX4_won_98 rfl (wp_if_eq (t := 123) (q := 103) dX4_won_100 rfl rfl (fun c100 => ?_) (fun c100 => ?_))
              · refine wp_bi (q := 125) dX4_won_123 rfl (by decide) (by decide) (wp_iret dX4_won_125 rfl ?_)
                first
                  | exact absurd c100 (by decide)
                  | (have no : ¬ (mbA pl wi od sz m ∧ ccA od sz m (plO pl sz q)) := by
                       rintro ⟨⟨z1, z2, z3⟩, z4⟩
                       first
                         | exact c95 (hkd.trans z1)
                         | exact c58 ((s1 0 c39).mpr z2)
                         | exact c79 ((s2 0 c39).mpr z3)
                         | (rw [bI_t (hcc.mpr z4)] at c120; exact absurd c120 (by decide))
                     refine ⟨rI (by unfold spWon; rw [if_neg (by omega), if_pos no]), ?_, hf9⟩
                     rw [if_neg (fun z => no z.2)]
                     exact ⟨wm, lf, rt, ws, rw, pt, wh, on, tw, wo, wt, il, dr, dn, hM, hwm, hil, hdr, trivial⟩)
              · refine wp_al0 (q := 104) dX4_won_103 rfl (wp_getf (q := 107) dX4_won_104 rfl f28 m0 m1 rfl (fun z => nomatch z) (wp_il1 (q := 108) dX4_won_107 rfl (wp_iaload (q := 109) dX4_won_108 rfl mlf (by omega) (by omega) (wp_al0 (q := 110) dX4_won_109 rfl (wp_getf (q := 113) dX4_won_110 rfl f29 m0 m1 rfl (fun z => nomatch z) (wp_il1 (q := 114) dX4_won_113 rfl (wp_iaload (q := 115) dX4_won_114 rfl mrt (by omega) (by omega) (wp_ior _ (q := 116) dX4_won_115 rfl rfl ?_))))))))
                rw [hor]
                refine wp_il2 (q := 117) dX4_won_116 rfl (wp_ishr _ (q := 118) dX4_won_117 rfl rfl (wp_ic (q := 119) dX4_won_118 rfl (by decide) (by decide) (wp_iand (bI (u.testBit q = true)) (q := 120) dX4_won_119 rfl hbt (wp_if_ne (t := 126) (q := 123) dX4_won_120 rfl rfl (fun c120 => ?_) (fun c120 => ?_)))))
                · refine wp_al0 (q := 127) dX4_won_126 rfl (wp_getf (q := 130) dX4_won_127 rfl f27 m0 m1 rfl (fun z => nomatch z) (wp_il1 (q := 131) dX4_won_130 rfl (wp_il2 (q := 132) dX4_won_131 rfl (wp_iastore (q := 133) dX4_won_132 rfl (by omega) mwm (by omega) (by omega) ?_))))
                  have lwm0 := lwm
                  have hM := hM.sWm (x := sI wm m q) ((sI_len _ _ _).trans lwm)
                  obtain ⟨m0, m1, mch, map, mpl, mwm, mlf, mrt, mws, mrw, mpt, mwh, mon, mtw, mdn, lch, lap, lpl, lwm, llf, lrt, lws, lrw, lpt, lwh, lon, ltw, ldn, m8⟩ := id hM
                  refine wp_al0 (q := 134) dX4_won_133 rfl (wp_v0I (q := 137) dX4_won_134 rfl q142 (Nat.le_of_ble_eq_true rfl) rfl m0 m1 rfl rfl ((mt_decided 0 hM).up (by omega)) (wp_iret dX4_won_137 rfl ?_))
                  first
                    | exact absurd rfl c100
                    | (have t1 : u.testBit q = true := Decidable.byContradiction (fun z => c120 (bI_f z))
                       have yes : mbA pl wi od sz m ∧ ccA od sz m (plO pl sz q) := by
                         refine ⟨⟨hkd.symm.trans c95, ?_⟩, hcc.mp t1⟩
                         first
                           | exact s0 0 c39
                           | exact ⟨(s1 0 c39).mp c58, (s2 0 c39).mp c79⟩
                       have hq8 : tld (q : Int) = q := by unfold tld; rw [if_neg (by omega)]
                       have hw2 := WmO_set (v := q) (x := m) hwm hI.wil lwm0 v1 (by omega)
                       rw [hq8] at hw2
                       refine ⟨rI ?_, ?_, fun j hj => by rw [fr_set (by omega)]; exact hf9 j hj⟩
                       · unfold spWon
                         rw [if_neg (by omega), if_neg (fun z => z yes)]
                         refine dcW m8 (fun y y0 y1 => ?_) (v8_set hI.hwv (by omega) (by omega)) hw2
                         have := hI.hwt y y0 y1
                         unfold rd8 at this ⊢
                         rw [if_pos (by omega)] at this ⊢
                         rw [gI_ne v1 (by omega) (by omega)]
                         exact this
                       · rw [if_pos ⟨by omega, yes⟩]
                         exact ⟨_, lf, rt, ws, rw, pt, wh, on, tw, wo, wt, il, dr, dn, hM, hw2, hil, hdr, trivial⟩)
                · refine wp_bi (q := 125) dX4_won_123 rfl (by decide) (by decide) (wp_iret dX4_won_125 rfl ?_)
                  first
                    | exact absurd c100 (by decide)
                    | (have no : ¬ (mbA pl wi od sz m ∧ ccA od sz m (plO pl sz q)) := by
                         rintro ⟨⟨z1, z2, z3⟩, z4⟩
                         first
                           | exact c95 (hkd.trans z1)
                           | exact c58 ((s1 0 c39).mpr z2)
                           | exact c79 ((s2 0 c39).mpr z3)
                           | (rw [bI_t (hcc.mpr z4)] at c120; exact absurd c120 (by decide))
                       refine ⟨rI (by unfold spWon; rw [if_neg (by omega), if_pos no]), ?_, hf9⟩
                       rw [if_neg (fun z => no z.2)]
                       exact ⟨wm, lf, rt, ws, rw, pt, wh, on, tw, wo, wt, il, dr, dn, hM, hwm, hil, hdr, trivial⟩)
    · refine wp_ic (q := 17) dX4_won_16 rfl (by decide) (by decide) (wp_iret dX4_won_17 rfl ?_)
      refine ⟨rI (by unfold spWon; rw [if_pos (by omega)]), ?_, fun _ _ => rfl⟩
      rw [if_neg (fun z => by have := z.1; omega)]
      exact hS
