/-! the model: won, match, can (rows laid by wip/whole) -/
/-- what holds of the state between calls -/
def Inv (n sz : Nat) (ch ro pl wi : List Int) : Prop := (2 ≤ n ∧ n ≤ 8) ∧ ((sz : Int) = 2 ∨ (sz : Int) = 4 ∨ (sz : Int) = 8) ∧ (ch.length = 64) ∧ (ro.length = 64) ∧ (pl.length = 8) ∧ (wi.length = 8) ∧ (chB ch) ∧ (chS ch) ∧ (roS ro) ∧ (v8 pl) ∧ (∀ x : Int, 0 ≤ x → x < 8 → rd8 pl x = 8 ∨ rd8 pl x < n) ∧ (∀ y : Int, sz ≤ y → y < 8 → gI pl y = 8) ∧ (DisG sz pl) ∧ (v8 wi) ∧ (∀ x : Int, (sz : Int) - 1 ≤ x → x < 8 → rd8 wi x = 8) ∧ (WiG sz pl wi)
theorem Inv.hn {n sz : Nat} {ch ro pl wi : List Int} (h : Inv n sz ch ro pl wi) : 2 ≤ n ∧ n ≤ 8 := h.1
theorem Inv.hs {n sz : Nat} {ch ro pl wi : List Int} (h : Inv n sz ch ro pl wi) : (sz : Int) = 2 ∨ (sz : Int) = 4 ∨ (sz : Int) = 8 := h.2.1
theorem Inv.chl {n sz : Nat} {ch ro pl wi : List Int} (h : Inv n sz ch ro pl wi) : ch.length = 64 := h.2.2.1
theorem Inv.rol {n sz : Nat} {ch ro pl wi : List Int} (h : Inv n sz ch ro pl wi) : ro.length = 64 := h.2.2.2.1
theorem Inv.pll {n sz : Nat} {ch ro pl wi : List Int} (h : Inv n sz ch ro pl wi) : pl.length = 8 := h.2.2.2.2.1
theorem Inv.wil {n sz : Nat} {ch ro pl wi : List Int} (h : Inv n sz ch ro pl wi) : wi.length = 8 := h.2.2.2.2.2.1
theorem Inv.hch {n sz : Nat} {ch ro pl wi : List Int} (h : Inv n sz ch ro pl wi) : chB ch := h.2.2.2.2.2.2.1
theorem Inv.hcs {n sz : Nat} {ch ro pl wi : List Int} (h : Inv n sz ch ro pl wi) : chS ch := h.2.2.2.2.2.2.2.1
theorem Inv.hro {n sz : Nat} {ch ro pl wi : List Int} (h : Inv n sz ch ro pl wi) : roS ro := h.2.2.2.2.2.2.2.2.1
theorem Inv.hv {n sz : Nat} {ch ro pl wi : List Int} (h : Inv n sz ch ro pl wi) : v8 pl := h.2.2.2.2.2.2.2.2.2.1
theorem Inv.hpn {n sz : Nat} {ch ro pl wi : List Int} (h : Inv n sz ch ro pl wi) : ∀ x : Int, 0 ≤ x → x < 8 → rd8 pl x = 8 ∨ rd8 pl x < n := h.2.2.2.2.2.2.2.2.2.2.1
theorem Inv.hpt {n sz : Nat} {ch ro pl wi : List Int} (h : Inv n sz ch ro pl wi) : ∀ y : Int, sz ≤ y → y < 8 → gI pl y = 8 := h.2.2.2.2.2.2.2.2.2.2.2.1
theorem Inv.hdi {n sz : Nat} {ch ro pl wi : List Int} (h : Inv n sz ch ro pl wi) : DisG sz pl := h.2.2.2.2.2.2.2.2.2.2.2.2.1
theorem Inv.hwv {n sz : Nat} {ch ro pl wi : List Int} (h : Inv n sz ch ro pl wi) : v8 wi := h.2.2.2.2.2.2.2.2.2.2.2.2.2.1
theorem Inv.hwt {n sz : Nat} {ch ro pl wi : List Int} (h : Inv n sz ch ro pl wi) : ∀ x : Int, (sz : Int) - 1 ≤ x → x < 8 → rd8 wi x = 8 := h.2.2.2.2.2.2.2.2.2.2.2.2.2.2.1
theorem Inv.hwg {n sz : Nat} {ch ro pl wi : List Int} (h : Inv n sz ch ro pl wi) : WiG sz pl wi := h.2.2.2.2.2.2.2.2.2.2.2.2.2.2.2
theorem orM {l t : Int} (h1 : mk8 l) (h2 : mk8 t) : mOr l t = ((l.toNat ||| t.toNat : Nat) : Int) := by
  have := mOr_nat (a := l.toNat) (b := t.toNat) (by omega) (by omega)
  rw [show ((l.toNat : Nat) : Int) = l by omega, show ((t.toNat : Nat) : Int) = t by omega] at this
  exact this
theorem orM_0 {l t : Int} (h1 : mk8 l) (h2 : mk8 t) : ((l.toNat ||| t.toNat : Nat) : Int) = 0 ↔ (l = 0 ∧ t = 0) := by
  have h3 : l.toNat < 256 := by omega
  have h4 : t.toNat < 256 := by omega
  have z := tb_zero (Nat.or_lt_two_pow (n := 8) h3 h4)
  have zl := tb_zero h3
  have zt := tb_zero h4
  constructor
  · intro e
    have e2 := z.mp (by omega)
    have a1 : l.toNat = 0 := zl.mpr (fun p hp q => e2 p hp ((tb_lor _ _ _).mpr (Or.inl q)))
    have a2 : t.toNat = 0 := zt.mpr (fun p hp q => e2 p hp ((tb_lor _ _ _).mpr (Or.inr q)))
    clear z zl zt
    omega
  · rintro ⟨rfl, rfl⟩; rfl
theorem WmO_r {wi wm : List Int} (hwv : v8 wi) (hw : WmO wi wm) : wmR wm := fun x x0 x1 => by
  have := rd8_in hwv x
  rw [hw x x0 x1]
  unfold tld
  split <;> omega
abbrev stB (s c : Int) : Prop := s = 0 ∨ s = 3 ∨ (s = 1 ∧ c = 1)
theorem mt_sort (d : Nat) {h : List mC} {g : Nat} {n sz : Int} {ch ap pl wm lf rt ws rw pt wh on tw : List Int} {wo wt il dr : Int} {dn : List Int} (hM : MU h g n sz ch ap pl wm lf rt ws rw pt wh on tw wo wt il dr dn) {x : Int} (x0 : 0 ≤ x) (x1 : x < 7) (k1 : mk8 (gI lf x)) (k2 : mk8 (gI rt x)) : Rt (d + 0) mX4_sort [mR g, mI x] h (some (mI (srM (gI lf x) (gI rt x) (gI wm x)))) (h) := by
  obtain ⟨m0, m1, mch, map, mpl, mwm, mlf, mrt, mws, mrw, mpt, mwh, mon, mtw, mdn, lch, lap, lpl, lwm, llf, lrt, lws, lrw, lpt, lwh, lon, ltw, ldn, m8⟩ := id hM
  have eo : mOr (lf.getD x.toNat 0) (rt.getD x.toNat 0) = ((((gI lf x).toNat ||| (gI rt x).toNat : Nat)) : Int) := orM k1 k2
  have e0 := orM_0 k1 k2
  generalize (((gI lf x).toNat ||| (gI rt x).toNat : Nat) : Int) = O at eo e0
  show Wp _ mX4_sort 0 [mR g, mI x] [] h (0, 0) _
  refine wp_al0 (q := 1) dX4_sort_0 rfl (wp_getf (q := 4) dX4_sort_1 rfl f28 m0 m1 rfl (fun z => nomatch z) (wp_il1 (q := 5) dX4_sort_4 rfl (wp_iaload (q := 6) dX4_sort_5 rfl mlf (by omega) (by omega) (wp_al0 (q := 7) dX4_sort_6 rfl (wp_getf (q := 10) dX4_sort_7 rfl f29 m0 m1 rfl (fun z => nomatch z) (wp_il1 (q := 11) dX4_sort_10 rfl (wp_iaload (q := 12) dX4_sort_11 rfl mrt (by omega) (by omega) (wp_ior _ (q := 13) dX4_sort_12 rfl rfl ?_))))))))
  rw [eo]
  refine wp_if_ne (t := 18) (q := 16) dX4_sort_13 rfl rfl (fun c13 => ?_) (fun c13 => ?_)
  · refine wp_al0 (q := 19) dX4_sort_18 rfl (wp_getf (q := 22) dX4_sort_19 rfl f28 m0 m1 rfl (fun z => nomatch z) (wp_il1 (q := 23) dX4_sort_22 rfl (wp_iaload (q := 24) dX4_sort_23 rfl mlf (by omega) (by omega) (wp_if_eq (t := 36) (q := 27) dX4_sort_24 rfl rfl (fun c24 => ?_) (fun c24 => ?_)))))
    · have d24 : gI lf x = 0 := c24
      refine wp_ic (q := 37) dX4_sort_36 rfl (by decide) (by decide) (wp_goto (q := 56) dX4_sort_37 rfl (wp_iret dX4_sort_56 rfl ?_))
      refine ⟨rI ?_, rfl⟩
      unfold srM
      clear hM eo
      (repeat' split) <;> omega
    · have d24 : gI lf x ≠ 0 := c24
      refine wp_al0 (q := 28) dX4_sort_27 rfl (wp_getf (q := 31) dX4_sort_28 rfl f29 m0 m1 rfl (fun z => nomatch z) (wp_il1 (q := 32) dX4_sort_31 rfl (wp_iaload (q := 33) dX4_sort_32 rfl mrt (by omega) (by omega) (wp_if_ne (t := 40) (q := 36) dX4_sort_33 rfl rfl (fun c33 => ?_) (fun c33 => ?_)))))
      · have d33 : gI rt x ≠ 0 := c33
        refine wp_al0 (q := 41) dX4_sort_40 rfl (wp_getf (q := 44) dX4_sort_41 rfl f27 m0 m1 rfl (fun z => nomatch z) (wp_il1 (q := 45) dX4_sort_44 rfl (wp_iaload (q := 46) dX4_sort_45 rfl mwm (by omega) (by omega) (wp_bi (q := 48) dX4_sort_46 rfl (by decide) (by decide) (wp_icmp_eq (t := 55) (q := 51) dX4_sort_48 rfl rfl (fun c48 => ?_) (fun c48 => ?_))))))
        · have d48 : gI wm x = -9 := c48
          refine wp_ic (q := 56) dX4_sort_55 rfl (by decide) (by decide) (wp_iret dX4_sort_56 rfl ?_)
          refine ⟨rI ?_, rfl⟩
          unfold srM
          clear hM eo
          (repeat' split) <;> omega
        · have d48 : gI wm x ≠ -9 := c48
          refine wp_ic (q := 52) dX4_sort_51 rfl (by decide) (by decide) (wp_goto (q := 56) dX4_sort_52 rfl (wp_iret dX4_sort_56 rfl ?_))
          refine ⟨rI ?_, rfl⟩
          unfold srM
          clear hM eo
          (repeat' split) <;> omega
      · have d33 : gI rt x = 0 := c33
        refine wp_ic (q := 37) dX4_sort_36 rfl (by decide) (by decide) (wp_goto (q := 56) dX4_sort_37 rfl (wp_iret dX4_sort_56 rfl ?_))
        refine ⟨rI ?_, rfl⟩
        unfold srM
        clear hM eo
        (repeat' split) <;> omega
  · refine wp_ic (q := 17) dX4_sort_16 rfl (by decide) (by decide) (wp_iret dX4_sort_17 rfl ?_)
    refine ⟨rI ?_, rfl⟩
    unfold srM
    clear hM eo
    (repeat' split) <;> omega
theorem orM_lt {l t : Int} (h1 : mk8 l) (h2 : mk8 t) : l.toNat ||| t.toNat < 256 := Nat.or_lt_two_pow (n := 8) (by omega) (by omega)
theorem mt_isSettled (d : Nat) {h : List mC} {g : Nat} {n sz : Int} {ch ap pl wm lf rt ws rw pt wh on tw : List Int} {wo wt il dr : Int} {dn : List Int} (hM : MU h g n sz ch ap pl wm lf rt ws rw pt wh on tw wo wt il dr dn) {x : Int} (x0 : 0 ≤ x) (x1 : x < 7) (k1 : mk8 (gI lf x)) (k2 : mk8 (gI rt x)) : Rt (d + 1) mX4_isSettled [mR g, mI x] h (some (mI (bI (stB (srM (gI lf x) (gI rt x) (gI wm x)) (pcN ((gI lf x).toNat ||| (gI rt x).toNat)))))) (h) := by
  obtain ⟨m0, m1, mch, map, mpl, mwm, mlf, mrt, mws, mrw, mpt, mwh, mon, mtw, mdn, lch, lap, lpl, lwm, llf, lrt, lws, lrw, lpt, lwh, lon, ltw, ldn, m8⟩ := id hM
  have eo : mOr (lf.getD x.toNat 0) (rt.getD x.toNat 0) = ((((gI lf x).toNat ||| (gI rt x).toNat : Nat)) : Int) := orM k1 k2
  show Wp _ mX4_isSettled 0 [mR g, mI x, mU] [] h (0, 0) _
  refine wp_al0 (q := 1) dX4_isSettled_0 rfl (wp_il1 (q := 2) dX4_isSettled_1 rfl (wp_v1I (q := 5) dX4_isSettled_2 rfl q140 (Nat.le_of_ble_eq_true rfl) rfl m0 m1 rfl rfl (mt_sort d hM x0 x1 k1 k2) (wp_is2 (q := 6) dX4_isSettled_5 rfl rfl (wp_il2 (q := 7) dX4_isSettled_6 rfl (wp_if_eq (t := 40) (q := 10) dX4_isSettled_7 rfl rfl (fun c7 => ?_) (fun c7 => ?_))))))
  · refine wp_ic (q := 41) dX4_isSettled_40 rfl (by decide) (by decide) (wp_goto (q := 45) dX4_isSettled_41 rfl (wp_bret dX4_isSettled_45 rfl (by first | exact Or.inl rfl | exact Or.inr rfl | exact bI_01) ?_))
    generalize srM (gI lf x) (gI rt x) (gI wm x) = S at *
    generalize pcN ((gI lf x).toNat ||| (gI rt x).toNat) = C at *
    refine ⟨rI ?_, rfl⟩
    clear hM eo
    first
      | rw [bI_t (by omega)]
      | rw [bI_f (by omega)]
  · refine wp_il2 (q := 11) dX4_isSettled_10 rfl (wp_ic (q := 12) dX4_isSettled_11 rfl (by decide) (by decide) (wp_icmp_eq (t := 40) (q := 15) dX4_isSettled_12 rfl rfl (fun c12 => ?_) (fun c12 => ?_)))
    · refine wp_ic (q := 41) dX4_isSettled_40 rfl (by decide) (by decide) (wp_goto (q := 45) dX4_isSettled_41 rfl (wp_bret dX4_isSettled_45 rfl (by first | exact Or.inl rfl | exact Or.inr rfl | exact bI_01) ?_))
      generalize srM (gI lf x) (gI rt x) (gI wm x) = S at *
      generalize pcN ((gI lf x).toNat ||| (gI rt x).toNat) = C at *
      refine ⟨rI ?_, rfl⟩
      clear hM eo
      first
        | rw [bI_t (by omega)]
        | rw [bI_f (by omega)]
    · refine wp_il2 (q := 16) dX4_isSettled_15 rfl (wp_ic (q := 17) dX4_isSettled_16 rfl (by decide) (by decide) (wp_icmp_ne (t := 44) (q := 20) dX4_isSettled_17 rfl rfl (fun c17 => ?_) (fun c17 => ?_)))
      · refine wp_ic (q := 45) dX4_isSettled_44 rfl (by decide) (by decide) (wp_bret dX4_isSettled_45 rfl (by first | exact Or.inl rfl | exact Or.inr rfl | exact bI_01) ?_)
        generalize srM (gI lf x) (gI rt x) (gI wm x) = S at *
        generalize pcN ((gI lf x).toNat ||| (gI rt x).toNat) = C at *
        refine ⟨rI ?_, rfl⟩
        clear hM eo
        first
          | rw [bI_t (by omega)]
          | rw [bI_f (by omega)]
      · refine wp_al0 (q := 21) dX4_isSettled_20 rfl (wp_getf (q := 24) dX4_isSettled_21 rfl f28 m0 m1 rfl (fun z => nomatch z) (wp_il1 (q := 25) dX4_isSettled_24 rfl (wp_iaload (q := 26) dX4_isSettled_25 rfl mlf (by omega) (by omega) (wp_al0 (q := 27) dX4_isSettled_26 rfl (wp_getf (q := 30) dX4_isSettled_27 rfl f29 m0 m1 rfl (fun z => nomatch z) (wp_il1 (q := 31) dX4_isSettled_30 rfl (wp_iaload (q := 32) dX4_isSettled_31 rfl mrt (by omega) (by omega) (wp_ior _ (q := 33) dX4_isSettled_32 rfl rfl ?_))))))))
        rw [eo]
        refine wp_s1I (q := 36) dX4_isSettled_33 rfl q141 (Nat.le_of_ble_eq_true rfl) rfl rfl rfl (mt_many d (orM_lt k1 k2)) (wp_ic (q := 37) dX4_isSettled_36 rfl (by decide) (by decide) (wp_icmp_ne (t := 44) (q := 40) dX4_isSettled_37 rfl rfl (fun c37 => ?_) (fun c37 => ?_)))
        · refine wp_ic (q := 45) dX4_isSettled_44 rfl (by decide) (by decide) (wp_bret dX4_isSettled_45 rfl (by first | exact Or.inl rfl | exact Or.inr rfl | exact bI_01) ?_)
          generalize srM (gI lf x) (gI rt x) (gI wm x) = S at *
          generalize pcN ((gI lf x).toNat ||| (gI rt x).toNat) = C at *
          refine ⟨rI ?_, rfl⟩
          clear hM eo
          first
            | rw [bI_t (by omega)]
            | rw [bI_f (by omega)]
        · refine wp_ic (q := 41) dX4_isSettled_40 rfl (by decide) (by decide) (wp_goto (q := 45) dX4_isSettled_41 rfl (wp_bret dX4_isSettled_45 rfl (by first | exact Or.inl rfl | exact Or.inr rfl | exact bI_01) ?_))
          generalize srM (gI lf x) (gI rt x) (gI wm x) = S at *
          generalize pcN ((gI lf x).toNat ||| (gI rt x).toNat) = C at *
          refine ⟨rI ?_, rfl⟩
          clear hM eo
          first
            | rw [bI_t (by omega)]
            | rw [bI_f (by omega)]
