/-! the model: match, can (rows laid by wip/whole) -/
theorem ms_match (d : Nat) {h : List mC} {g n sz : Nat} {ch ro pl wi : List Int} (hS : MS h g n sz ch ro pl wi) (hI : Inv n sz ch ro pl wi) {m x : Int} (od : List Int) (hW : (0 ≤ m ∧ m < (sz : Int) - 1) → x = 3 → WgOk sz ch pl wi od) : Ct (d + 3) mX4_match [mR g, mI m, mI x] h (fun r9 h9 => r9 = some (mI (spMatch sz pl wi od m x)) ∧ MS h9 g n sz ch ro pl wi ∧ ∀ j : Nat, (j < g ∨ g + 14 ≤ j) → h9[j]? = h[j]?) := by
  obtain ⟨wm, lf, rt, ws, rw, pt, wh, on, tw, wo, wt, il, dr, dn, hM, hwm, hil, hdr, hf0⟩ := id hS
  obtain ⟨m0, m1, mch, map, mpl, mwm, mlf, mrt, mws, mrw, mpt, mwh, mon, mtw, mdn, lch, lap, lpl, lwm, llf, lrt, lws, lrw, lpt, lwh, lon, ltw, ldn, m8⟩ := id hM
  show Wp _ mX4_match 0 [mR g, mI m, mI x] [] h (0, 0) _
  refine wp_al0 (q := 1) dX4_match_0 rfl (wp_il1 (q := 2) dX4_match_1 rfl (wp_v1I (q := 5) dX4_match_2 rfl q132 (Nat.le_of_ble_eq_true rfl) rfl m0 m1 rfl rfl ((mt_isMatch 0 hM).up (by omega)) (wp_ifb_ne (t := 10) (q := 8) dX4_match_5 rfl rfl (fun c5 => ?_) (fun c5 => ?_))))
  · refine wp_al0 (q := 11) dX4_match_10 rfl (wp_v0 (q := 14) dX4_match_11 rfl q133 (Nat.le_of_ble_eq_true rfl) rfl m0 m1 rfl rfl ((mt_spread 0 hM hI.hv (WmO_r hI.hwv hwm)).up (by omega)) (fun r9 h9 e9 => ?_))
    obtain ⟨rfl, ⟨lf, rt, ws, hM, hsp⟩, hf9⟩ := e9
    obtain ⟨m0, m1, mch, map, mpl, mwm, mlf, mrt, mws, mrw, mpt, mwh, mon, mtw, mdn, lch, lap, lpl, lwm, llf, lrt, lws, lrw, lpt, lwh, lon, ltw, ldn, m8⟩ := id hM
    have hnd := fun m a b => spw_nd m8 hI.hv hI.hch hI.hcs hI.hdi hI.hwv hI.hwg hwm hsp (m.toNat + 1) m (Nat.lt_succ_self _) a b
    show Wp _ _ _ _ [] _ _ _
    have k1 := (hsp m (by omega) (by omega)).1
    have k2 := (hsp m (by omega) (by omega)).2.1
    refine wp_il2 (q := 15) dX4_match_14 rfl ?_
    rcases (show x = 0 ∨ x = 1 ∨ x = 2 ∨ x = 3 ∨ (x < 0 ∨ 3 < x) by omega) with rfl | rfl | rfl | rfl | hts
    · refine wp_tsi (off := 29) (t := 44) dX4_match_15 (by decide) (by decide) (by decide) rfl ?_
      refine wp_al0 (q := 45) dX4_match_44 rfl (wp_il1 (q := 46) dX4_match_45 rfl (wp_v1I (q := 49) dX4_match_46 rfl q134 (Nat.le_of_ble_eq_true rfl) rfl m0 m1 rfl rfl ((mt_roundOf 0 hM (by omega) (by omega)).up (by omega)) (wp_iret dX4_match_49 rfl ?_)))
      exact ⟨rI (by unfold spMatch; rw [if_neg (by omega), if_pos rfl]), ⟨wm, lf, rt, ws, rw, pt, wh, on, tw, wo, wt, il, dr, dn, hM, hwm, hil, hdr, trivial⟩, hf9⟩
    · refine wp_tsi (off := 35) (t := 50) dX4_match_15 (by decide) (by decide) (by decide) rfl ?_
      refine wp_al0 (q := 51) dX4_match_50 rfl (wp_il1 (q := 52) dX4_match_51 rfl (wp_v1I (q := 55) dX4_match_52 rfl q140 (Nat.le_of_ble_eq_true rfl) rfl m0 m1 rfl rfl ((mt_sort 0 hM (by omega) (by omega) k1 k2).up (by omega)) (wp_iret dX4_match_55 rfl ?_)))
      exact ⟨rI (by unfold spMatch; rw [if_neg (by omega), if_neg (by omega), if_pos rfl]; exact sr_kd m8 hI.hwv hwm (by omega) (by omega) (hnd m (by omega) (by omega)) k1 k2), ⟨wm, lf, rt, ws, rw, pt, wh, on, tw, wo, wt, il, dr, dn, hM, hwm, hil, hdr, trivial⟩, hf9⟩
    · refine wp_tsi (off := 41) (t := 56) dX4_match_15 (by decide) (by decide) (by decide) rfl ?_
      refine wp_al0 (q := 57) dX4_match_56 rfl (wp_getf (q := 60) dX4_match_57 rfl f27 m0 m1 rfl (fun z => nomatch z) (wp_il1 (q := 61) dX4_match_60 rfl (wp_iaload (q := 62) dX4_match_61 rfl mwm (by omega) (by omega) (wp_iret dX4_match_62 rfl ?_))))
      exact ⟨rI (by unfold spMatch; rw [if_neg (by omega), if_neg (by omega), if_neg (by omega), if_pos rfl]; exact hwm m (by omega) (by omega)), ⟨wm, lf, rt, ws, rw, pt, wh, on, tw, wo, wt, il, dr, dn, hM, hwm, hil, hdr, trivial⟩, hf9⟩
    · refine wp_tsi (off := 48) (t := 63) dX4_match_15 (by decide) (by decide) (by decide) rfl ?_
      refine wp_al0 (q := 64) dX4_match_63 rfl (wp_getf (q := 67) dX4_match_64 rfl f28 m0 m1 rfl (fun z => nomatch z) (wp_il1 (q := 68) dX4_match_67 rfl (wp_iaload (q := 69) dX4_match_68 rfl mlf (by omega) (by omega) (wp_al0 (q := 70) dX4_match_69 rfl (wp_getf (q := 73) dX4_match_70 rfl f29 m0 m1 rfl (fun z => nomatch z) (wp_il1 (q := 74) dX4_match_73 rfl (wp_iaload (q := 75) dX4_match_74 rfl mrt (by omega) (by omega) (wp_ior _ (q := 76) dX4_match_75 rfl rfl ?_))))))))
      rw [show mOr (lf.getD m.toNat 0) (rt.getD m.toNat 0) = ((((gI lf m).toNat ||| (gI rt m).toNat : Nat)) : Int) from orM k1 k2]
      refine wp_s1I (q := 79) dX4_match_76 rfl q141 (Nat.le_of_ble_eq_true rfl) rfl rfl rfl ((mt_many 0 (orM_lt k1 k2)).up (by omega)) (wp_iret dX4_match_79 rfl ?_)
      exact ⟨rI (by unfold spMatch; rw [if_neg (by omega), if_neg (by omega), if_neg (by omega), if_neg (by omega), if_pos rfl]; exact pc_cm m8 hI.hv hI.hch hI.hdi (by omega) (by omega) (hnd m (by omega) (by omega)) (hW (by omega) rfl)), ⟨wm, lf, rt, ws, rw, pt, wh, on, tw, wo, wt, il, dr, dn, hM, hwm, hil, hdr, trivial⟩, hf9⟩
    · refine wp_tso (t := 80) dX4_match_15 hts rfl ?_
      refine wp_bi (q := 82) dX4_match_80 rfl (by decide) (by decide) (wp_iret dX4_match_82 rfl ?_)
      exact ⟨rI (by unfold spMatch; rw [if_neg (by omega), if_neg (by omega), if_neg (by omega), if_neg (by omega), if_neg (by omega)]), ⟨wm, lf, rt, ws, rw, pt, wh, on, tw, wo, wt, il, dr, dn, hM, hwm, hil, hdr, trivial⟩, hf9⟩
  · refine wp_ic (q := 9) dX4_match_8 rfl (by decide) (by decide) (wp_iret dX4_match_9 rfl ?_)
    exact ⟨rI (by unfold spMatch; rw [if_pos (by omega)]), hS, fun _ _ => rfl⟩
theorem ms_can (d : Nat) {h : List mC} {g n sz : Nat} {ch ro pl wi : List Int} (hS : MS h g n sz ch ro pl wi) (hI : Inv n sz ch ro pl wi) {x : Int} (od : List Int) (hW : (0 ≤ x ∧ x < n) → WgOk sz ch pl wi od) : Ct (d + 3) mX4_can [mR g, mI x] h (fun r9 h9 => r9 = some (mI (spCan n sz pl od x)) ∧ MS h9 g n sz ch ro pl wi ∧ ∀ j : Nat, (j < g ∨ g + 14 ≤ j) → h9[j]? = h[j]?) := by
  obtain ⟨wm, lf, rt, ws, rw, pt, wh, on, tw, wo, wt, il, dr, dn, hM, hwm, hil, hdr, hf0⟩ := id hS
  obtain ⟨m0, m1, mch, map, mpl, mwm, mlf, mrt, mws, mrw, mpt, mwh, mon, mtw, mdn, lch, lap, lpl, lwm, llf, lrt, lws, lrw, lpt, lwh, lon, ltw, ldn, m8⟩ := id hM
  show Wp _ mX4_can 0 [mR g, mI x, mU] [] h (0, 0) _
  refine wp_al0 (q := 1) dX4_can_0 rfl (wp_il1 (q := 2) dX4_can_1 rfl (wp_v1I (q := 5) dX4_can_2 rfl q124 (Nat.le_of_ble_eq_true rfl) rfl m0 m1 rfl rfl ((mt_isPlayer 0 hM (by have := hI.hn; omega)).up (by omega)) (wp_ifb_ne (t := 10) (q := 8) dX4_can_5 rfl rfl (fun c5 => ?_) (fun c5 => ?_))))
  · refine wp_al0 (q := 11) dX4_can_10 rfl (wp_v0 (q := 14) dX4_can_11 rfl q133 (Nat.le_of_ble_eq_true rfl) rfl m0 m1 rfl rfl ((mt_spread 0 hM hI.hv (WmO_r hI.hwv hwm)).up (by omega)) (fun r9 h9 e9 => ?_))
    obtain ⟨rfl, ⟨lf, rt, ws, hM, hsp⟩, hf9⟩ := e9
    obtain ⟨m0, m1, mch, map, mpl, mwm, mlf, mrt, mws, mrw, mpt, mwh, mon, mtw, mdn, lch, lap, lpl, lwm, llf, lrt, lws, lrw, lpt, lwh, lon, ltw, ldn, m8⟩ := id hM
    have hnd := fun m a b => spw_nd m8 hI.hv hI.hch hI.hcs hI.hdi hI.hwv hI.hwg hwm hsp (m.toNat + 1) m (Nat.lt_succ_self _) a b
    show Wp _ _ _ _ [] _ _ _
    have k3 := (hsp ((sz : Int) - 2) (by omega) (by omega)).2.2.1
    have hnt := hnd ((sz : Int) - 2) (by omega) (by omega)
    have hn8 := hI.hn
    obtain ⟨q, rfl⟩ := Int.eq_ofNat_of_zero_le (by omega : 0 ≤ x)
    obtain ⟨u, hu⟩ : ∃ u, u = (gI ws ((sz : Int) - 2)).toNat := ⟨_, rfl⟩
    have hu8 : u < 256 := by omega
    have hue : ws.getD ((sz : Int) - 2).toNat 0 = ((u : Nat) : Int) := by show gI ws ((sz : Int) - 2) = _; omega
    have hbt := (bits_all u hu8 q (by omega)).1
    have hWq := hW (by omega)
    have htb := tb_top m8 hI.hdi hnt hWq (p := q) (by omega)
    have hpc := pc_top m8 hI.hv hI.hch hI.hdi hnt hWq
    rw [← hu] at htb hpc
    have hlr := lrA_in m8
    have hod : 0 ≤ odA od (lrA sz) (plO pl sz q) := (hWq.in m8 hI.hch (by omega) (by omega) plO_in.2).1
    refine wp_al0 (q := 15) dX4_can_14 rfl (wp_getf (q := 18) dX4_can_15 rfl f30 m0 m1 rfl (fun z => nomatch z) (wp_al0 (q := 19) dX4_can_18 rfl (wp_getf (q := 22) dX4_can_19 rfl f23 m0 m1 rfl (fun z => nomatch z) (wp_ic (q := 23) dX4_can_22 rfl (by decide) (by decide) (wp_isub (q := 24) dX4_can_23 rfl (by omega) (by omega) (wp_iaload (q := 25) dX4_can_24 rfl mws (by omega) (by omega) ?_))))))
    rw [hue]
    refine wp_is2 (q := 26) dX4_can_25 rfl rfl (wp_il2 (q := 27) dX4_can_26 rfl (wp_il1 (q := 28) dX4_can_27 rfl (wp_ishr _ (q := 29) dX4_can_28 rfl rfl (wp_ic (q := 30) dX4_can_29 rfl (by decide) (by decide) (wp_iand (bI (u.testBit q = true)) (q := 31) dX4_can_30 rfl hbt (wp_if_ne (t := 38) (q := 34) dX4_can_31 rfl rfl (fun c31 => ?_) (fun c31 => ?_)))))))
    · refine wp_il2 (q := 39) dX4_can_38 rfl (wp_s1I (q := 42) dX4_can_39 rfl q141 (Nat.le_of_ble_eq_true rfl) rfl rfl rfl ((mt_many 0 hu8).up (by omega)) (wp_ic (q := 43) dX4_can_42 rfl (by decide) (by decide) (wp_icmp_ne (t := 50) (q := 46) dX4_can_43 rfl rfl (fun c43 => ?_) (fun c43 => ?_))))
      · refine wp_ic (q := 51) dX4_can_50 rfl (by decide) (by decide) (wp_iret dX4_can_51 rfl ?_)
        refine ⟨rI ?_, ⟨wm, lf, rt, ws, rw, pt, wh, on, tw, wo, wt, il, dr, dn, hM, hwm, hil, hdr, trivial⟩, hf9⟩
        unfold spCan
        rw [if_neg (by omega), ← hpc]
        first
          | (have z : ¬ u.testBit q = true := fun z => by rw [bI_t z] at c31; exact absurd c31 (by decide)
             have w0 : ¬ 0 < odA od (lrA sz) (plO pl sz q) := fun w => z (htb.mpr w)
             rw [if_pos (by omega)])
          | (have z : u.testBit q = true := Decidable.byContradiction (fun z => c31 (bI_f z))
             have := htb.mp z
             rw [if_neg (by omega)]
             first
               | rw [if_pos c43]
               | rw [if_neg c43])
      · refine wp_ic (q := 47) dX4_can_46 rfl (by decide) (by decide) (wp_goto (q := 51) dX4_can_47 rfl (wp_iret dX4_can_51 rfl ?_))
        refine ⟨rI ?_, ⟨wm, lf, rt, ws, rw, pt, wh, on, tw, wo, wt, il, dr, dn, hM, hwm, hil, hdr, trivial⟩, hf9⟩
        unfold spCan
        rw [if_neg (by omega), ← hpc]
        first
          | (have z : ¬ u.testBit q = true := fun z => by rw [bI_t z] at c31; exact absurd c31 (by decide)
             have w0 : ¬ 0 < odA od (lrA sz) (plO pl sz q) := fun w => z (htb.mpr w)
             rw [if_pos (by omega)])
          | (have z : u.testBit q = true := Decidable.byContradiction (fun z => c31 (bI_f z))
             have := htb.mp z
             rw [if_neg (by omega)]
             first
               | rw [if_pos c43]
               | rw [if_neg c43])
    · refine wp_ic (q := 35) dX4_can_34 rfl (by decide) (by decide) (wp_goto (q := 51) dX4_can_35 rfl (wp_iret dX4_can_51 rfl ?_))
      refine ⟨rI ?_, ⟨wm, lf, rt, ws, rw, pt, wh, on, tw, wo, wt, il, dr, dn, hM, hwm, hil, hdr, trivial⟩, hf9⟩
      unfold spCan
      rw [if_neg (by omega), ← hpc]
      first
        | (have z : ¬ u.testBit q = true := fun z => by rw [bI_t z] at c31; exact absurd c31 (by decide)
           have w0 : ¬ 0 < odA od (lrA sz) (plO pl sz q) := fun w => z (htb.mpr w)
           rw [if_pos (by omega)])
        | (have z : u.testBit q = true := Decidable.byContradiction (fun z => c31 (bI_f z))
           have := htb.mp z
           rw [if_neg (by omega)]
           first
             | rw [if_pos c43]
             | rw [if_neg c43])
  · refine wp_ic (q := 9) dX4_can_8 rfl (by decide) (by decide) (wp_iret dX4_can_9 rfl ?_)
    exact ⟨rI (by unfold spCan; rw [if_pos (by omega)]), hS, fun _ _ => rfl⟩
