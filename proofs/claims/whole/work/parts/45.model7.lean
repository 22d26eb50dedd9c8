/-! the model: won (rows laid by wip/whole) -/
theorem kdA_in (pl wi : List Int) (sz m : Int) : kdA pl wi sz m = 0 ∨ kdA pl wi sz m = 1 ∨ kdA pl wi sz m = 2 ∨ kdA pl wi sz m = 3 := by
  unfold kdA
  split
  · exact Or.inl rfl
  · split
    · exact Or.inr (Or.inl rfl)
    · split
      · exact Or.inr (Or.inr (Or.inl rfl))
      · exact Or.inr (Or.inr (Or.inr rfl))
theorem st_eq {s c e : Int} (h4 : s = 0 ∨ s = 1 ∨ s = 2 ∨ s = 3) (he : 0 ≤ e) : (s = 0 ∨ s = 3 ∨ (s = 1 ∧ c = 1)) ↔ (e < 0 ∨ (s = 1 ∧ c = 1) ∨ (s ≠ 1 ∧ s ≠ 2)) := by
  rcases h4 with rfl | rfl | rfl | rfl <;> constructor <;> intro h <;> omega
theorem ms_won (d : Nat) {h : List mC} {g n sz : Nat} {ch ro pl wi : List Int} (hS : MS h g n sz ch ro pl wi) (hI : Inv n sz ch ro pl wi) {m x : Int} (od : List Int) (hW : ((0 ≤ m ∧ m < (sz : Int) - 1) ∧ (0 ≤ x ∧ x < n)) → WgOk sz ch pl wi od) : Ct (d + 4) mX4_won [mR g, mI m, mI x] h (fun r9 h9 => r9 = some (mI (spWon n sz pl wi od m x)) ∧ (if ((0 ≤ m ∧ m < (sz : Int) - 1) ∧ (0 ≤ x ∧ x < n)) ∧ mbA pl wi od sz m ∧ ccA od sz m (plO pl sz x) then MS h9 g n sz ch ro pl (sI wi m x) else MS h9 g n sz ch ro pl wi) ∧ ∀ j : Nat, (j < g ∨ g + 14 ≤ j) → h9[j]? = h[j]?) := by
  obtain ⟨wm, lf, rt, ws, rw, pt, wh, on, tw, wo, wt, il, dr, dn, hM, hwm, hil, hdr, hf0⟩ := id hS
  obtain ⟨m0, m1, mch, map, mpl, mwm, mlf, mrt, mws, mrw, mpt, mwh, mon, mtw, mdn, lch, lap, lpl, lwm, llf, lrt, lws, lrw, lpt, lwh, lon, ltw, ldn, m8⟩ := id hM
  show Wp _ mX4_won 0 [mR g, mI m, mI x, mU, mU, mU] [] h (0, 0) _
  refine wp_al0 (q := 1) dX4_won_0 rfl (wp_il1 (q := 2) dX4_won_1 rfl (wp_v1I (q := 5) dX4_won_2 rfl q132 (Nat.le_of_ble_eq_true rfl) rfl m0 m1 rfl rfl ((mt_isMatch 0 hM).up (by omega)) (wp_ifb_eq (t := 16) (q := 8) dX4_won_5 rfl rfl (fun c5 => ?_) (fun c5 => ?_))))
  · refine wp_ic (q := 17) dX4_won_16 rfl (by decide) (by decide) (wp_iret dX4_won_17 rfl ?_)
    refine ⟨rI (by unfold spWon; rw [if_pos (by omega)]), ?_, fun _ _ => rfl⟩
    rw [if_neg (fun z => by have := z.1; omega)]
    exact hS
  · refine wp_al0 (q := 9) dX4_won_8 rfl (wp_il2 (q := 10) dX4_won_9 rfl (wp_v1I (q := 13) dX4_won_10 rfl q124 (Nat.le_of_ble_eq_true rfl) rfl m0 m1 rfl rfl ((mt_isPlayer 0 hM (by have := hI.hn; omega)).up (by omega)) (wp_ifb_ne (t := 18) (q := 16) dX4_won_13 rfl rfl (fun c13 => ?_) (fun c13 => ?_))))
    · refine wp_al0 (q := 19) dX4_won_18 rfl (wp_v0 (q := 22) dX4_won_19 rfl q133 (Nat.le_of_ble_eq_true rfl) rfl m0 m1 rfl rfl ((mt_spread 0 hM hI.hv (WmO_r hI.hwv hwm)).up (by omega)) (fun r9 h9 e9 => ?_))
      obtain ⟨rfl, ⟨lf, rt, ws, hM, hsp⟩, hf9⟩ := e9
      obtain ⟨m0, m1, mch, map, mpl, mwm, mlf, mrt, mws, mrw, mpt, mwh, mon, mtw, mdn, lch, lap, lpl, lwm, llf, lrt, lws, lrw, lpt, lwh, lon, ltw, ldn, m8⟩ := id hM
      have hnd := fun m a b => spw_nd m8 hI.hv hI.hch hI.hcs hI.hdi hI.hwv hI.hwg hwm hsp (m.toNat + 1) m (Nat.lt_succ_self _) a b
      show Wp _ _ _ _ [] _ _ _
      have v1 : 0 ≤ m := by omega
      have v2 : m < (sz : Int) - 1 := by omega
      have hn8 := hI.hn
      have hlr := lrA_in m8
      obtain ⟨i1, i2, i3, i4, i5, i6⟩ := rd_ix m8 v1 v2
      have ix : Nat → rdO sz m ≠ 1 → fmA sz (rdO sz m - 1) + 2 * (m - fmA sz (rdO sz m)) = 2 * m - sz ∧ fmA sz (rdO sz m - 1) + 2 * (m - fmA sz (rdO sz m)) + 1 = 2 * m + 1 - sz := fun _ z => by have := i6 z; omega
      have kc : Nat → rdO sz m ≠ 1 → 0 ≤ fmA sz (rdO sz m - 1) ∧ fmA sz (rdO sz m - 1) ≤ 8 ∧ (sz : Int) ≤ 2 * m ∧ 2 * m + 1 - sz < m := fun _ z => (i6 z).2
      have kk : Nat → rdO sz m ≠ 1 → mk8 (gI lf (2 * m - sz)) ∧ mk8 (gI rt (2 * m - sz)) ∧ mk8 (gI lf (2 * m + 1 - sz)) ∧ mk8 (gI rt (2 * m + 1 - sz)) := fun _ z => by
        have := i6 z
        have a := hsp (2 * m - sz) (by omega) (by omega)
        have b := hsp (2 * m + 1 - sz) (by omega) (by omega)
        exact ⟨a.1, a.2.1, b.1, b.2.1⟩
      have k1 := (hsp m v1 v2).1
      have k2 := (hsp m v1 v2).2.1
      obtain ⟨q, rfl⟩ := Int.eq_ofNat_of_zero_le (by omega : 0 ≤ x)
      have hWq := hW (by omega)
      have hkd := sr_kd m8 hI.hwv hwm v1 v2 (hnd m v1 v2) k1 k2
      have hcc := tb_cc m8 hI.hdi v1 v2 (hnd m v1 v2) hWq (p := q) (by omega)
      have hbt := (bits_all _ (orM_lt k1 k2) q (by omega)).1
      have hst : Nat → rdO sz m ≠ 1 → ∀ e : Int, 0 ≤ e → e < (sz : Int) - 1 → mk8 (gI lf e) → mk8 (gI rt e) → (stB (srM (gI lf e) (gI rt e) (gI wm e)) (pcN ((gI lf e).toNat ||| (gI rt e).toNat)) ↔ stA pl wi od sz e) := fun _ z e e0 e1 a b => by
        rw [sr_kd m8 hI.hwv hwm e0 e1 (hnd e e0 e1) a b, pc_cm m8 hI.hv hI.hch hI.hdi e0 e1 (hnd e e0 e1) hWq]
        exact st_eq (kdA_in pl wi sz e) e0
      have s1 : Nat → rdO sz m ≠ 1 → (stB (srM (gI lf (2 * m - sz)) (gI rt (2 * m - sz)) (gI wm (2 * m - sz))) (pcN ((gI lf (2 * m - sz)).toNat ||| (gI rt (2 * m - sz)).toNat)) ↔ stA pl wi od sz (2 * m - sz)) := fun _ z => by have := kc 0 z; exact hst 0 z _ (by omega) (by omega) (kk 0 z).1 (kk 0 z).2.1
      have s2 : Nat → rdO sz m ≠ 1 → (stB (srM (gI lf (2 * m + 1 - sz)) (gI rt (2 * m + 1 - sz)) (gI wm (2 * m + 1 - sz))) (pcN ((gI lf (2 * m + 1 - sz)).toNat ||| (gI rt (2 * m + 1 - sz)).toNat)) ↔ stA pl wi od sz (2 * m + 1 - sz)) := fun _ z => by have := kc 0 z; exact hst 0 z _ (by omega) (by omega) (kk 0 z).2.2.1 (kk 0 z).2.2.2
      have s0 : Nat → rdO sz m = 1 → stA pl wi od sz (2 * m - sz) ∧ stA pl wi od sz (2 * m + 1 - sz) := fun _ z => by have := i5 z; exact ⟨Or.inl (by omega), Or.inl (by omega)⟩
      clear i5 i6
      obtain ⟨u, hu⟩ : ∃ u, u = (gI lf m).toNat ||| (gI rt m).toNat := ⟨_, rfl⟩
      have hor : mOr (lf.getD m.toNat 0) (rt.getD m.toNat 0) = ((u : Nat) : Int) := by rw [hu]; exact orM k1 k2
      rw [← hu] at hbt hcc
      refine wp_al0 (q := 23) dX4_won_22 rfl (wp_il1 (q := 24) dX4_won_23 rfl (wp_v1I (q := 27) dX4_won_24 rfl q134 (Nat.le_of_ble_eq_true rfl) rfl m0 m1 rfl rfl ((mt_roundOf 0 hM v1 v2).up (by omega)) (wp_is3 (q := 28) dX4_won_27 rfl rfl (wp_il1 (q := 29) dX4_won_28 rfl (wp_al0 (q := 30) dX4_won_29 rfl (wp_il3 (q := 31) dX4_won_30 rfl (wp_v1I (q := 34) dX4_won_31 rfl q136 (Nat.le_of_ble_eq_true rfl) rfl m0 m1 rfl rfl ((mt_startOf 0 hM i1 i2).up (by omega)) (wp_isub (q := 35) dX4_won_34 rfl (by omega) (by omega) (wp_is4 (q := 37) dX4_won_35 rfl rfl (wp_il3 (q := 38) dX4_won_37 rfl (wp_ic (q := 39) dX4_won_38 rfl (by decide) (by decide) (wp_icmp_eq (t := 82) (q := 42) dX4_won_39 rfl rfl (fun c39 => ?_) (fun c39 => ?_)))))))))))))
      · refine wp_ic (q := 83) dX4_won_82 rfl (by decide) (by decide) (wp_goto (q := 87) dX4_won_83 rfl (wp_is5 (q := 89) dX4_won_87 rfl rfl (wp_al0 (q := 90) dX4_won_89 rfl (wp_il1 (q := 91) dX4_won_90 rfl (wp_v1I (q := 94) dX4_won_91 rfl q140 (Nat.le_of_ble_eq_true rfl) rfl m0 m1 rfl rfl ((mt_sort 0 hM v1 (by omega) k1 k2).up (by omega)) (wp_ic (q := 95) dX4_won_94 rfl (by decide) (by decide) (wp_icmp_ne (t := 123) (q := 98) dX4_won_95 rfl rfl (fun c95 => ?_) (fun c95 => ?_))))))))
        · refine wp_bi (q := 125) dX4_won_123 rfl (by decide) (by decide) (wp_iret dX4_won_125 rfl ?_)
          first
            | exact absurd c100 (by decide)
            | (have no : ¬ (mbA pl wi od sz m ∧ ccA od sz m (plO pl sz q)) := by
                 rintro ⟨⟨z1, z2, z3⟩, z4⟩
                 first
                   | exact c95 (hkd.trans z1)
                   | exact c58 ((s1 0 c39).mpr z2)
                   | exact c79 ((s2 0 c39).mpr z3)
                   | (rw [bI_t (hcc.mpr z4)] at c120; exact absurd c120 (by decide))
               refine ⟨rI (by unfold spWon; rw [if_neg (by omega), if_pos no]), ?_, hf9⟩
               rw [if_neg (fun z => no z.2)]
               exact ⟨wm, lf, rt, ws, rw, pt, wh, on, tw, wo, wt, il, dr, dn, hM, hwm, hil, hdr, trivial⟩)
        · refine wp_il5 (q := 100) dX4_won_98 rfl (wp_if_eq (t := 123) (q := 103) dX4_won_100 rfl rfl (fun c100 => ?_) (fun c100 => ?_))
          · refine wp_bi (q := 125) dX4_won_123 rfl (by decide) (by decide) (wp_iret dX4_won_125 rfl ?_)
            first
              | exact absurd c100 (by decide)
              | (have no : ¬ (mbA pl wi od sz m ∧ ccA od sz m (plO pl sz q)) := by
                   rintro ⟨⟨z1, z2, z3⟩, z4⟩
                   first
                     | exact c95 (hkd.trans z1)
                     | exact c58 ((s1 0 c39).mpr z2)
                     | exact c79 ((s2 0 c39).mpr z3)
                     | (rw [bI_t (hcc.mpr z4)] at c120; exact absurd c120 (by decide))
                 refine ⟨rI (by unfold spWon; rw [if_neg (by omega), if_pos no]), ?_, hf9⟩
                 rw [if_neg (fun z => no z.2)]
                 exact ⟨wm, lf, rt, ws, rw, pt, wh, on, tw, wo, wt, il, dr, dn, hM, hwm, hil, hdr, trivial⟩)
          · refine wp_al0 (q := 104) dX4_won_103 rfl (wp_getf (q := 107) dX4_won_104 rfl f28 m0 m1 rfl (fun z => nomatch z) (wp_il1 (q := 108) dX4_won_107 rfl (wp_iaload (q := 109) dX4_won_108 rfl mlf (by omega) (by omega) (wp_al0 (q := 110) dX4_won_109 rfl (wp_getf (q := 113) dX4_won_110 rfl f29 m0 m1 rfl (fun z => nomatch z) (wp_il1 (q := 114) dX4_won_113 rfl (wp_iaload (q := 115) dX4_won_114 rfl mrt (by omega) (by omega) (wp_ior _ (q := 116) dX4_won_115 rfl rfl ?_))))))))
            rw [hor]
            refine wp_il2 (q := 117) dX4_won_116 rfl (wp_ishr _ (q := 118) dX4_won_117 rfl rfl (wp_ic (q := 119) dX4_won_118 rfl (by decide) (by decide) (wp_iand (bI (u.testBit q = true)) (q := 120) dX4_won_119 rfl hbt (wp_if_ne (t := 126) (q := 123) dX4_won_120 rfl rfl (fun c120 => ?_) (fun c120 => ?_)))))
            · refine wp_al0 (q := 127) dX4_won_126 rfl (wp_getf (q := 130) dX4_won_127 rfl f27 m0 m1 rfl (fun z => nomatch z) (wp_il1 (q := 131) dX4_won_130 rfl (wp_il2 (q := 132) dX4_won_131 rfl (wp_iastore (q := 133) dX4_won_132 rfl (by omega) mwm (by omega) (by omega) ?_))))
              have lwm0 := lwm
              have hM := hM.sWm (x := sI wm m q) ((sI_len _ _ _).trans lwm)
              obtain ⟨m0, m1, mch, map, mpl, mwm, mlf, mrt, mws, mrw, mpt, mwh, mon, mtw, mdn, lch, lap, lpl, lwm, llf, lrt, lws, lrw, lpt, lwh, lon, ltw, ldn, m8⟩ := id hM
              refine wp_al0 (q := 134) dX4_won_133 rfl (wp_v0I (q := 137) dX4_won_134 rfl q142 (Nat.le_of_ble_eq_true rfl) rfl m0 m1 rfl rfl ((mt_decided 0 hM).up (by omega)) (wp_iret dX4_won_137 rfl ?_))
              first
                | exact absurd rfl c100
                | (have t1 : u.testBit q = true := Decidable.byContradiction (fun z => c120 (bI_f z))
                   have yes : mbA pl wi od sz m ∧ ccA od sz m (plO pl sz q) := by
                     refine ⟨⟨hkd.symm.trans c95, ?_⟩, hcc.mp t1⟩
                     first
                       | exact s0 0 c39
                       | exact ⟨(s1 0 c39).mp c58, (s2 0 c39).mp c79⟩
                   have hq8 : tld (q : Int) = q := by unfold tld; rw [if_neg (by omega)]
                   have hw2 := WmO_set (v := q) (x := m) hwm hI.wil lwm0 v1 (by omega)
                   rw [hq8] at hw2
                   refine ⟨rI ?_, ?_, fun j hj => by rw [fr_set (by omega)]; exact hf9 j hj⟩
                   · unfold spWon
                     rw [if_neg (by omega), if_neg (fun z => z yes)]
                     refine dcW m8 (fun y y0 y1 => ?_) (v8_set hI.hwv (by omega) (by omega)) hw2
                     have := hI.hwt y y0 y1
                     unfold rd8 at this ⊢
                     rw [if_pos (by omega)] at this ⊢
                     rw [gI_ne v1 (by omega) (by omega)]
                     exact this
                   · rw [if_pos ⟨by omega, yes⟩]
                     exact ⟨_, lf, rt, ws, rw, pt, wh, on, tw, wo, wt, il, dr, dn, hM, hw2, hil, hdr, trivial⟩)
            · refine wp_bi (q := 125) dX4_won_123 rfl (by decide) (by decide) (wp_iret dX4_won_125 rfl ?_)
              first
                | exact absurd c100 (by decide)
                | (have no : ¬ (mbA pl wi od sz m ∧ ccA od sz m (plO pl sz q)) := by
                     rintro ⟨⟨z1, z2, z3⟩, z4⟩
                     first
                       | exact c95 (hkd.trans z1)
                       | exact c58 ((s1 0 c39).mpr z2)
                       | exact c79 ((s2 0 c39).mpr z3)
                       | (rw [bI_t (hcc.mpr z4)] at c120; exact absurd c120 (by decide))
                   refine ⟨rI (by unfold spWon; rw [if_neg (by omega), if_pos no]), ?_, hf9⟩
                   rw [if_neg (fun z => no z.2)]
                   exact ⟨wm, lf, rt, ws, rw, pt, wh, on, tw, wo, wt, il, dr, dn, hM, hwm, hil, hdr, trivial⟩)
      · have kc2 := kc 0 c39
        refine wp_al0 (q := 43) dX4_won_42 rfl (wp_al0 (q := 44) dX4_won_43 rfl (wp_il3 (q := 45) dX4_won_44 rfl (wp_ic (q := 46) dX4_won_45 rfl (by decide) (by decide) (wp_isub (q := 47) dX4_won_46 rfl (by omega) (by omega) (wp_v1I (q := 50) dX4_won_47 rfl q136 (Nat.le_of_ble_eq_true rfl) rfl m0 m1 rfl rfl ((mt_startOf 0 hM (by omega) (by omega)).up (by omega)) (wp_ic (q := 51) dX4_won_50 rfl (by decide) (by decide) (wp_il4 (q := 53) dX4_won_51 rfl (wp_imul (q := 54) dX4_won_53 rfl (by omega) (by omega) (wp_iadd (q := 55) dX4_won_54 rfl (by omega) (by omega) ?_)))))))))
        rw [(ix 0 c39).1]
        refine wp_v1I (q := 58) dX4_won_55 rfl q139 (Nat.le_of_ble_eq_true rfl) rfl m0 m1 rfl rfl (by have z := (mt_isSettled 0 hM (x := 2 * m - sz) (by omega) (by omega) (kk 0 c39).1 (kk 0 c39).2.1).up (D := d + 3) (by omega); rw [← (ix 0 c39).1] at z; rw [(ix 0 c39).1] at z; exact z) (wp_ifb_eq (t := 86) (q := 61) dX4_won_58 rfl rfl (fun c58 => ?_) (fun c58 => ?_))
        · refine wp_ic (q := 87) dX4_won_86 rfl (by decide) (by decide) (wp_is5 (q := 89) dX4_won_87 rfl rfl (wp_al0 (q := 90) dX4_won_89 rfl (wp_il1 (q := 91) dX4_won_90 rfl (wp_v1I (q := 94) dX4_won_91 rfl q140 (Nat.le_of_ble_eq_true rfl) rfl m0 m1 rfl rfl ((mt_sort 0 hM v1 (by omega) k1 k2).up (by omega)) (wp_ic (q := 95) dX4_won_94 rfl (by decide) (by decide) (wp_icmp_ne (t := 123) (q := 98) dX4_won_95 rfl rfl (fun c95 => ?_) (fun c95 => ?_)))))))
          · refine wp_bi (q := 125) dX4_won_123 rfl (by decide) (by decide) (wp_iret dX4_won_125 rfl ?_)
            first
              | exact absurd c100 (by decide)
              | (have no : ¬ (mbA pl wi od sz m ∧ ccA od sz m (plO pl sz q)) := by
                   rintro ⟨⟨z1, z2, z3⟩, z4⟩
                   first
                     | exact c95 (hkd.trans z1)
                     | exact c58 ((s1 0 c39).mpr z2)
                     | exact c79 ((s2 0 c39).mpr z3)
                     | (rw [bI_t (hcc.mpr z4)] at c120; exact absurd c120 (by decide))
                 refine ⟨rI (by unfold spWon; rw [if_neg (by omega), if_pos no]), ?_, hf9⟩
                 rw [if_neg (fun z => no z.2)]
                 exact ⟨wm, lf, rt, ws, rw, pt, wh, on, tw, wo, wt, il, dr, dn, hM, hwm, hil, hdr, trivial⟩)
          · refine wp_il5 (q := 100) dX4_won_98 rfl (wp_if_eq (t := 123) (q := 103) dX4_won_100 rfl rfl (fun c100 => ?_) (fun c100 => ?_))
            · refine wp_bi (q := 125) dX4_won_123 rfl (by decide) (by decide) (wp_iret dX4_won_125 rfl ?_)
              first
                | exact absurd c100 (by decide)
                | (have no : ¬ (mbA pl wi od sz m ∧ ccA od sz m (plO pl sz q)) := by
                     rintro ⟨⟨z1, z2, z3⟩, z4⟩
                     first
                       | exact c95 (hkd.trans z1)
                       | exact c58 ((s1 0 c39).mpr z2)
                       | exact c79 ((s2 0 c39).mpr z3)
                       | (rw [bI_t (hcc.mpr z4)] at c120; exact absurd c120 (by decide))
                   refine ⟨rI (by unfold spWon; rw [if_neg (by omega), if_pos no]), ?_, hf9⟩
                   rw [if_neg (fun z => no z.2)]
                   exact ⟨wm, lf, rt, ws, rw, pt, wh, on, tw, wo, wt, il, dr, dn, hM, hwm, hil, hdr, trivial⟩)
            · refine wp_al0 (q := 104) dX4_won_103 rfl (wp_getf (q := 107) dX4_won_104 rfl f28 m0 m1 rfl (fun z => nomatch z) (wp_il1 (q := 108) dX4_won_107 rfl (wp_iaload (q := 109) dX4_won_108 rfl mlf (by omega) (by omega) (wp_al0 (q := 110) dX4_won_109 rfl (wp_getf (q := 113) dX4_won_110 rfl f29 m0 m1 rfl (fun z => nomatch z) (wp_il1 (q := 114) dX4_won_113 rfl (wp_iaload (q := 115) dX4_won_114 rfl mrt (by omega) (by omega) (wp_ior _ (q := 116) dX4_won_115 rfl rfl ?_))))))))
              rw [hor]
              refine wp_il2 (q := 117) dX4_won_116 rfl (wp_ishr _ (q := 118) dX4_won_117 rfl rfl (wp_ic (q := 119) dX4_won_118 rfl (by decide) (by decide) (wp_iand (bI (u.testBit q = true)) (q := 120) dX4_won_119 rfl hbt (wp_if_ne (t := 126) (q := 123) dX4_won_120 rfl rfl (fun c120 => ?_) (fun c120 => ?_)))))
              · refine wp_al0 (q := 127) dX4_won_126 rfl (wp_getf (q := 130) dX4_won_127 rfl f27 m0 m1 rfl (fun z => nomatch z) (wp_il1 (q := 131) dX4_won_130 rfl (wp_il2 (q := 132) dX4_won_131 rfl (wp_iastore (q := 133) dX4_won_132 rfl (by omega) mwm (by omega) (by omega) ?_))))
                have lwm0 := lwm
                have hM := hM.sWm (x := sI wm m q) ((sI_len _ _ _).trans lwm)
                obtain ⟨m0, m1, mch, map, mpl, mwm, mlf, mrt, mws, mrw, mpt, mwh, mon, mtw, mdn, lch, lap, lpl, lwm, llf, lrt, lws, lrw, lpt, lwh, lon, ltw, ldn, m8⟩ := id hM
                refine wp_al0 (q := 134) dX4_won_133 rfl (wp_v0I (q := 137) dX4_won_134 rfl q142 (Nat.le_of_ble_eq_true rfl) rfl m0 m1 rfl rfl ((mt_decided 0 hM).up (by omega)) (wp_iret dX4_won_137 rfl ?_))
                first
                  | exact absurd rfl c100
                  | (have t1 : u.testBit q = true := Decidable.byContradiction (fun z => c120 (bI_f z))
                     have yes : mbA pl wi od sz m ∧ ccA od sz m (plO pl sz q) := by
                       refine ⟨⟨hkd.symm.trans c95, ?_⟩, hcc.mp t1⟩
                       first
                         | exact s0 0 c39
                         | exact ⟨(s1 0 c39).mp c58, (s2 0 c39).mp c79⟩
                     have hq8 : tld (q : Int) = q := by unfold tld; rw [if_neg (by omega)]
                     have hw2 := WmO_set (v := q) (x := m) hwm hI.wil lwm0 v1 (by omega)
                     rw [hq8] at hw2
                     refine ⟨rI ?_, ?_, fun j hj => by rw [fr_set (by omega)]; exact hf9 j hj⟩
                     · unfold spWon
                       rw [if_neg (by omega), if_neg (fun z => z yes)]
                       refine dcW m8 (fun y y0 y1 => ?_) (v8_set hI.hwv (by omega) (by omega)) hw2
                       have := hI.hwt y y0 y1
                       unfold rd8 at this ⊢
                       rw [if_pos (by omega)] at this ⊢
                       rw [gI_ne v1 (by omega) (by omega)]
                       exact this
                     · rw [if_pos ⟨by omega, yes⟩]
                       exact ⟨_, lf, rt, ws, rw, pt, wh, on, tw, wo, wt, il, dr, dn, hM, hw2, hil, hdr, trivial⟩)
              · refine wp_bi (q := 125) dX4_won_123 rfl (by decide) (by decide) (wp_iret dX4_won_125 rfl ?_)
                first
                  | exact absurd c100 (by decide)
                  | (have no : ¬ (mbA pl wi od sz m ∧ ccA od sz m (plO pl sz q)) := by
                       rintro ⟨⟨z1, z2, z3⟩, z4⟩
                       first
                         | exact c95 (hkd.trans z1)
                         | exact c58 ((s1 0 c39).mpr z2)
                         | exact c79 ((s2 0 c39).mpr z3)
                         | (rw [bI_t (hcc.mpr z4)] at c120; exact absurd c120 (by decide))
                     refine ⟨rI (by unfold spWon; rw [if_neg (by omega), if_pos no]), ?_, hf9⟩
                     rw [if_neg (fun z => no z.2)]
                     exact ⟨wm, lf, rt, ws, rw, pt, wh, on, tw, wo, wt, il, dr, dn, hM, hwm, hil, hdr, trivial⟩)
        · refine wp_al0 (q := 62) dX4_won_61 rfl (wp_al0 (q := 63) dX4_won_62 rfl (wp_il3 (q := 64) dX4_won_63 rfl (wp_ic (q := 65) dX4_won_64 rfl (by decide) (by decide) (wp_isub (q := 66) dX4_won_65 rfl (by omega) (by omega) (wp_v1I (q := 69) dX4_won_66 rfl q136 (Nat.le_of_ble_eq_true rfl) rfl m0 m1 rfl rfl ((mt_startOf 0 hM (by omega) (by omega)).up (by omega)) (wp_ic (q := 70) dX4_won_69 rfl (by decide) (by decide) (wp_il4 (q := 72) dX4_won_70 rfl (wp_imul (q := 73) dX4_won_72 rfl (by omega) (by omega) (wp_iadd (q := 74) dX4_won_73 rfl (by omega) (by omega) (wp_ic (q := 75) dX4_won_74 rfl (by decide) (by decide) (wp_iadd (q := 76) dX4_won_75 rfl (by omega) (by omega) ?_)))))))))))
          rw [(ix 0 c39).2]
          refine wp_v1I (q := 79) dX4_won_76 rfl q139 (Nat.le_of_ble_eq_true rfl) rfl m0 m1 rfl rfl ((mt_isSettled 0 hM (x := 2 * m + 1 - sz) (by omega) (by omega) (kk 0 c39).2.2.1 (kk 0 c39).2.2.2).up (by omega)) (wp_ifb_eq (t := 86) (q := 82) dX4_won_79 rfl rfl (fun c79 => ?_) (fun c79 => ?_))
          · refine wp_ic (q := 87) dX4_won_86 rfl (by decide) (by decide) (wp_is5 (q := 89) dX4_won_87 rfl rfl (wp_al0 (q := 90) dX4_won_89 rfl (wp_il1 (q := 91) dX4_won_90 rfl (wp_v1I (q := 94) dX4_won_91 rfl q140 (Nat.le_of_ble_eq_true rfl) rfl m0 m1 rfl rfl ((mt_sort 0 hM v1 (by omega) k1 k2).up (by omega)) (wp_ic (q := 95) dX4_won_94 rfl (by decide) (by decide) (wp_icmp_ne (t := 123) (q := 98) dX4_won_95 rfl rfl (fun c95 => ?_) (fun c95 => ?_)))))))
            · refine wp_bi (q := 125) dX4_won_123 rfl (by decide) (by decide) (wp_iret dX4_won_125 rfl ?_)
              first
                | exact absurd c100 (by decide)
                | (have no : ¬ (mbA pl wi od sz m ∧ ccA od sz m (plO pl sz q)) := by
                     rintro ⟨⟨z1, z2, z3⟩, z4⟩
                     first
                       | exact c95 (hkd.trans z1)
                       | exact c58 ((s1 0 c39).mpr z2)
                       | exact c79 ((s2 0 c39).mpr z3)
                       | (rw [bI_t (hcc.mpr z4)] at c120; exact absurd c120 (by decide))
                   refine ⟨rI (by unfold spWon; rw [if_neg (by omega), if_pos no]), ?_, hf9⟩
                   rw [if_neg (fun z => no z.2)]
                   exact ⟨wm, lf, rt, ws, rw, pt, wh, on, tw, wo, wt, il, dr, dn, hM, hwm, hil, hdr, trivial⟩)
            · refine wp_il5 (q := 100) dX4_won_98 rfl (wp_if_eq (t := 123) (q := 103) dX4_won_100 rfl rfl (fun c100 => ?_) (fun c100 => ?_))
              · refine wp_bi (q := 125) dX4_won_123 rfl (by decide) (by decide) (wp_iret dX4_won_125 rfl ?_)
                first
                  | exact absurd c100 (by decide)
                  | (have no : ¬ (mbA pl wi od sz m ∧ ccA od sz m (plO pl sz q)) := by
                       rintro ⟨⟨z1, z2, z3⟩, z4⟩
                       first
                         | exact c95 (hkd.trans z1)
                         | exact c58 ((s1 0 c39).mpr z2)
                         | exact c79 ((s2 0 c39).mpr z3)
                         | (rw [bI_t (hcc.mpr z4)] at c120; exact absurd c120 (by decide))
                     refine ⟨rI (by unfold spWon; rw [if_neg (by omega), if_pos no]), ?_, hf9⟩
                     rw [if_neg (fun z => no z.2)]
                     exact ⟨wm, lf, rt, ws, rw, pt, wh, on, tw, wo, wt, il, dr, dn, hM, hwm, hil, hdr, trivial⟩)
              · refine wp_al0 (q := 104) dX4_won_103 rfl (wp_getf (q := 107) dX4_won_104 rfl f28 m0 m1 rfl (fun z => nomatch z) (wp_il1 (q := 108) dX4_won_107 rfl (wp_iaload (q := 109) dX4_won_108 rfl mlf (by omega) (by omega) (wp_al0 (q := 110) dX4_won_109 rfl (wp_getf (q := 113) dX4_won_110 rfl f29 m0 m1 rfl (fun z => nomatch z) (wp_il1 (q := 114) dX4_won_113 rfl (wp_iaload (q := 115) dX4_won_114 rfl mrt (by omega) (by omega) (wp_ior _ (q := 116) dX4_won_115 rfl rfl ?_))))))))
                rw [hor]
                refine wp_il2 (q := 117) dX4_won_116 rfl (wp_ishr _ (q := 118) dX4_won_117 rfl rfl (wp_ic (q := 119) dX4_won_118 rfl (by decide) (by decide) (wp_iand (bI (u.testBit q = true)) (q := 120) dX4_won_119 rfl hbt (wp_if_ne (t := 126) (q := 123) dX4_won_120 rfl rfl (fun c120 => ?_) (fun c120 => ?_)))))
                · refine wp_al0 (q := 127) dX4_won_126 rfl (wp_getf (q := 130) dX4_won_127 rfl f27 m0 m1 rfl (fun z => nomatch z) (wp_il1 (q := 131) dX4_won_130 rfl (wp_il2 (q := 132) dX4_won_131 rfl (wp_iastore (q := 133) dX4_won_132 rfl (by omega) mwm (by omega) (by omega) ?_))))
                  have lwm0 := lwm
                  have hM := hM.sWm (x := sI wm m q) ((sI_len _ _ _).trans lwm)
                  obtain ⟨m0, m1, mch, map, mpl, mwm, mlf, mrt, mws, mrw, mpt, mwh, mon, mtw, mdn, lch, lap, lpl, lwm, llf, lrt, lws, lrw, lpt, lwh, lon, ltw, ldn, m8⟩ := id hM
                  refine wp_al0 (q := 134) dX4_won_133 rfl (wp_v0I (q := 137) dX4_won_134 rfl q142 (Nat.le_of_ble_eq_true rfl) rfl m0 m1 rfl rfl ((mt_decided 0 hM).up (by omega)) (wp_iret dX4_won_137 rfl ?_))
                  first
                    | exact absurd rfl c100
                    | (have t1 : u.testBit q = true := Decidable.byContradiction (fun z => c120 (bI_f z))
                       have yes : mbA pl wi od sz m ∧ ccA od sz m (plO pl sz q) := by
                         refine ⟨⟨hkd.symm.trans c95, ?_⟩, hcc.mp t1⟩
                         first
                           | exact s0 0 c39
                           | exact ⟨(s1 0 c39).mp c58, (s2 0 c39).mp c79⟩
                       have hq8 : tld (q : Int) = q := by unfold tld; rw [if_neg (by omega)]
                       have hw2 := WmO_set (v := q) (x := m) hwm hI.wil lwm0 v1 (by omega)
                       rw [hq8] at hw2
                       refine ⟨rI ?_, ?_, fun j hj => by rw [fr_set (by omega)]; exact hf9 j hj⟩
                       · unfold spWon
                         rw [if_neg (by omega), if_neg (fun z => z yes)]
                         refine dcW m8 (fun y y0 y1 => ?_) (v8_set hI.hwv (by omega) (by omega)) hw2
                         have := hI.hwt y y0 y1
                         unfold rd8 at this ⊢
                         rw [if_pos (by omega)] at this ⊢
                         rw [gI_ne v1 (by omega) (by omega)]
                         exact this
                       · rw [if_pos ⟨by omega, yes⟩]
                         exact ⟨_, lf, rt, ws, rw, pt, wh, on, tw, wo, wt, il, dr, dn, hM, hw2, hil, hdr, trivial⟩)
                · refine wp_bi (q := 125) dX4_won_123 rfl (by decide) (by decide) (wp_iret dX4_won_125 rfl ?_)
                  first
                    | exact absurd c100 (by decide)
                    | (have no : ¬ (mbA pl wi od sz m ∧ ccA od sz m (plO pl sz q)) := by
                         rintro ⟨⟨z1, z2, z3⟩, z4⟩
                         first
                           | exact c95 (hkd.trans z1)
                           | exact c58 ((s1 0 c39).mpr z2)
                           | exact c79 ((s2 0 c39).mpr z3)
                           | (rw [bI_t (hcc.mpr z4)] at c120; exact absurd c120 (by decide))
                       refine ⟨rI (by unfold spWon; rw [if_neg (by omega), if_pos no]), ?_, hf9⟩
                       rw [if_neg (fun z => no z.2)]
                       exact ⟨wm, lf, rt, ws, rw, pt, wh, on, tw, wo, wt, il, dr, dn, hM, hwm, hil, hdr, trivial⟩)
          · refine wp_ic (q := 83) dX4_won_82 rfl (by decide) (by decide) (wp_goto (q := 87) dX4_won_83 rfl (wp_is5 (q := 89) dX4_won_87 rfl rfl (wp_al0 (q := 90) dX4_won_89 rfl (wp_il1 (q := 91) dX4_won_90 rfl (wp_v1I (q := 94) dX4_won_91 rfl q140 (Nat.le_of_ble_eq_true rfl) rfl m0 m1 rfl rfl ((mt_sort 0 hM v1 (by omega) k1 k2).up (by omega)) (wp_ic (q := 95) dX4_won_94 rfl (by decide) (by decide) (wp_icmp_ne (t := 123) (q := 98) dX4_won_95 rfl rfl (fun c95 => ?_) (fun c95 => ?_))))))))
            · refine wp_bi (q := 125) dX4_won_123 rfl (by decide) (by decide) (wp_iret dX4_won_125 rfl ?_)
              first
                | exact absurd c100 (by decide)
                | (have no : ¬ (mbA pl wi od sz m ∧ ccA od sz m (plO pl sz q)) := by
                     rintro ⟨⟨z1, z2, z3⟩, z4⟩
                     first
                       | exact c95 (hkd.trans z1)
                       | exact c58 ((s1 0 c39).mpr z2)
                       | exact c79 ((s2 0 c39).mpr z3)
                       | (rw [bI_t (hcc.mpr z4)] at c120; exact absurd c120 (by decide))
                   refine ⟨rI (by unfold spWon; rw [if_neg (by omega), if_pos no]), ?_, hf9⟩
                   rw [if_neg (fun z => no z.2)]
                   exact ⟨wm, lf, rt, ws, rw, pt, wh, on, tw, wo, wt, il, dr, dn, hM, hwm, hil, hdr, trivial⟩)
            · refine wp_il5 (q := 100) dX4_won_98 rfl (wp_if_eq (t := 123) (q := 103) dX4_won_100 rfl rfl (fun c100 => ?_) (fun c100 => ?_))
              · refine wp_bi (q := 125) dX4_won_123 rfl (by decide) (by decide) (wp_iret dX4_won_125 rfl ?_)
                first
                  | exact absurd c100 (by decide)
                  | (have no : ¬ (mbA pl wi od sz m ∧ ccA od sz m (plO pl sz q)) := by
                       rintro ⟨⟨z1, z2, z3⟩, z4⟩
                       first
                         | exact c95 (hkd.trans z1)
                         | exact c58 ((s1 0 c39).mpr z2)
                         | exact c79 ((s2 0 c39).mpr z3)
                         | (rw [bI_t (hcc.mpr z4)] at c120; exact absurd c120 (by decide))
                     refine ⟨rI (by unfold spWon; rw [if_neg (by omega), if_pos no]), ?_, hf9⟩
                     rw [if_neg (fun z => no z.2)]
                     exact ⟨wm, lf, rt, ws, rw, pt, wh, on, tw, wo, wt, il, dr, dn, hM, hwm, hil, hdr, trivial⟩)
              · refine wp_al0 (q := 104) dX4_won_103 rfl (wp_getf (q := 107) dX4_won_104 rfl f28 m0 m1 rfl (fun z => nomatch z) (wp_il1 (q := 108) dX4_won_107 rfl (wp_iaload (q := 109) dX4_won_108 rfl mlf (by omega) (by omega) (wp_al0 (q := 110) dX4_won_109 rfl (wp_getf (q := 113) dX4_won_110 rfl f29 m0 m1 rfl (fun z => nomatch z) (wp_il1 (q := 114) dX4_won_113 rfl (wp_iaload (q := 115) dX4_won_114 rfl mrt (by omega) (by omega) (wp_ior _ (q := 116) dX4_won_115 rfl rfl ?_))))))))
                rw [hor]
                refine wp_il2 (q := 117) dX4_won_116 rfl (wp_ishr _ (q := 118) dX4_won_117 rfl rfl (wp_ic (q := 119) dX4_won_118 rfl (by decide) (by decide) (wp_iand (bI (u.testBit q = true)) (q := 120) dX4_won_119 rfl hbt (wp_if_ne (t := 126) (q := 123) dX4_won_120 rfl rfl (fun c120 => ?_) (fun c120 => ?_)))))
                · refine wp_al0 (q := 127) dX4_won_126 rfl (wp_getf (q := 130) dX4_won_127 rfl f27 m0 m1 rfl (fun z => nomatch z) (wp_il1 (q := 131) dX4_won_130 rfl (wp_il2 (q := 132) dX4_won_131 rfl (wp_iastore (q := 133) dX4_won_132 rfl (by omega) mwm (by omega) (by omega) ?_))))
                  have lwm0 := lwm
                  have hM := hM.sWm (x := sI wm m q) ((sI_len _ _ _).trans lwm)
                  obtain ⟨m0, m1, mch, map, mpl, mwm, mlf, mrt, mws, mrw, mpt, mwh, mon, mtw, mdn, lch, lap, lpl, lwm, llf, lrt, lws, lrw, lpt, lwh, lon, ltw, ldn, m8⟩ := id hM
                  refine wp_al0 (q := 134) dX4_won_133 rfl (wp_v0I (q := 137) dX4_won_134 rfl q142 (Nat.le_of_ble_eq_true rfl) rfl m0 m1 rfl rfl ((mt_decided 0 hM).up (by omega)) (wp_iret dX4_won_137 rfl ?_))
                  first
                    | exact absurd rfl c100
                    | (have t1 : u.testBit q = true := Decidable.byContradiction (fun z => c120 (bI_f z))
                       have yes : mbA pl wi od sz m ∧ ccA od sz m (plO pl sz q) := by
                         refine ⟨⟨hkd.symm.trans c95, ?_⟩, hcc.mp t1⟩
                         first
                           | exact s0 0 c39
                           | exact ⟨(s1 0 c39).mp c58, (s2 0 c39).mp c79⟩
                       have hq8 : tld (q : Int) = q := by unfold tld; rw [if_neg (by omega)]
                       have hw2 := WmO_set (v := q) (x := m) hwm hI.wil lwm0 v1 (by omega)
                       rw [hq8] at hw2
                       refine ⟨rI ?_, ?_, fun j hj => by rw [fr_set (by omega)]; exact hf9 j hj⟩
                       · unfold spWon
                         rw [if_neg (by omega), if_neg (fun z => z yes)]
                         refine dcW m8 (fun y y0 y1 => ?_) (v8_set hI.hwv (by omega) (by omega)) hw2
                         have := hI.hwt y y0 y1
                         unfold rd8 at this ⊢
                         rw [if_pos (by omega)] at this ⊢
                         rw [gI_ne v1 (by omega) (by omega)]
                         exact this
                       · rw [if_pos ⟨by omega, yes⟩]
                         exact ⟨_, lf, rt, ws, rw, pt, wh, on, tw, wo, wt, il, dr, dn, hM, hw2, hil, hdr, trivial⟩)
                · refine wp_bi (q := 125) dX4_won_123 rfl (by decide) (by decide) (wp_iret dX4_won_125 rfl ?_)
                  first
                    | exact absurd c100 (by decide)
                    | (have no : ¬ (mbA pl wi od sz m ∧ ccA od sz m (plO pl sz q)) := by
                         rintro ⟨⟨z1, z2, z3⟩, z4⟩
                         first
                           | exact c95 (hkd.trans z1)
                           | exact c58 ((s1 0 c39).mpr z2)
                           | exact c79 ((s2 0 c39).mpr z3)
                           | (rw [bI_t (hcc.mpr z4)] at c120; exact absurd c120 (by decide))
                       refine ⟨rI (by unfold spWon; rw [if_neg (by omega), if_pos no]), ?_, hf9⟩
                       rw [if_neg (fun z => no z.2)]
                       exact ⟨wm, lf, rt, ws, rw, pt, wh, on, tw, wo, wt, il, dr, dn, hM, hwm, hil, hdr, trivial⟩)
    · refine wp_ic (q := 17) dX4_won_16 rfl (by decide) (by decide) (wp_iret dX4_won_17 rfl ?_)
      refine ⟨rI (by unfold spWon; rw [if_pos (by omega)]), ?_, fun _ _ => rfl⟩
      rw [if_neg (fun z => by have := z.1; omega)]
      exact hS
