/-! the model: reach, meet (rows laid by wip/whole) -/
abbrev abI (sz r y : Int) : Prop := 0 ≤ fmA sz r + y / p2A r ∧ fmA sz r + y / p2A r < sz - 1 ∧ rdO sz (fmA sz r + y / p2A r) = r ∧ fpO sz (fmA sz r + y / p2A r) ≤ y ∧ y < fpO sz (fmA sz r + y / p2A r) + 2 * hfA sz (fmA sz r + y / p2A r)
def abC (sz r y : Int) : Bool := !(decide (1 ≤ r ∧ r ≤ lrA sz ∧ y < sz)) || decide (abI sz r y)
theorem nb_or {p q : Prop} [Decidable p] [Decidable q] (h : (!(decide p) || decide q) = true) (hp : p) : q := by
  rw [Bool.or_eq_true] at h
  rcases h with h | h
  · rw [decide_eq_true hp] at h; exact absurd h (by decide)
  · exact of_decide_eq_true h
theorem ab_ix {sz r y : Int} (hs : sz = 2 ∨ sz = 4 ∨ sz = 8) (r1 : 1 ≤ r) (r3 : r ≤ lrA sz) (y0 : 0 ≤ y) (y1 : y < sz) : abI sz r y := by
  have key : ∀ Y : Nat, Y < 8 → ∀ R : Nat, R < 4 → (abC 2 R Y && abC 4 R Y && abC 8 R Y) = true := by decide +kernel
  have hl := lrA_in hs
  obtain ⟨Y, rfl⟩ := Int.eq_ofNat_of_zero_le y0
  obtain ⟨R, rfl⟩ := Int.eq_ofNat_of_zero_le (by omega : 0 ≤ r)
  have k := key Y (by omega) R (by omega)
  rw [Bool.and_eq_true, Bool.and_eq_true] at k
  rcases hs with rfl | rfl | rfl
  · exact nb_or k.1.1 ⟨r1, r3, y1⟩
  · exact nb_or k.1.2 ⟨r1, r3, y1⟩
  · exact nb_or k.2 ⟨r1, r3, y1⟩
abbrev mtI (sz x y : Int) : Prop := 0 ≤ fmA sz (mrA x y) + x / p2A (mrA x y) ∧ fmA sz (mrA x y) + x / p2A (mrA x y) < sz - 1 ∧ rdO sz (fmA sz (mrA x y) + x / p2A (mrA x y)) = mrA x y ∧ ((fpO sz (fmA sz (mrA x y) + x / p2A (mrA x y)) ≤ x ∧ x < fpO sz (fmA sz (mrA x y) + x / p2A (mrA x y)) + hfA sz (fmA sz (mrA x y) + x / p2A (mrA x y)) ∧ fpO sz (fmA sz (mrA x y) + x / p2A (mrA x y)) + hfA sz (fmA sz (mrA x y) + x / p2A (mrA x y)) ≤ y ∧ y < fpO sz (fmA sz (mrA x y) + x / p2A (mrA x y)) + 2 * hfA sz (fmA sz (mrA x y) + x / p2A (mrA x y))) ∨ (fpO sz (fmA sz (mrA x y) + x / p2A (mrA x y)) ≤ y ∧ y < fpO sz (fmA sz (mrA x y) + x / p2A (mrA x y)) + hfA sz (fmA sz (mrA x y) + x / p2A (mrA x y)) ∧ fpO sz (fmA sz (mrA x y) + x / p2A (mrA x y)) + hfA sz (fmA sz (mrA x y) + x / p2A (mrA x y)) ≤ x ∧ x < fpO sz (fmA sz (mrA x y) + x / p2A (mrA x y)) + 2 * hfA sz (fmA sz (mrA x y) + x / p2A (mrA x y))))
def mtC (sz x y : Int) : Bool := !(decide (x ≠ y ∧ x < sz ∧ y < sz)) || decide (mtI sz x y)
theorem mt_ix {sz x y : Int} (hs : sz = 2 ∨ sz = 4 ∨ sz = 8) (x0 : 0 ≤ x) (x1 : x < sz) (y0 : 0 ≤ y) (y1 : y < sz) (hne : x ≠ y) : mtI sz x y := by
  have key : ∀ X : Nat, X < 8 → ∀ Y : Nat, Y < 8 → (mtC 2 X Y && mtC 4 X Y && mtC 8 X Y) = true := by decide +kernel
  obtain ⟨X, rfl⟩ := Int.eq_ofNat_of_zero_le x0
  obtain ⟨Y, rfl⟩ := Int.eq_ofNat_of_zero_le y0
  have k := key X (by omega) Y (by omega)
  rw [Bool.and_eq_true, Bool.and_eq_true] at k
  rcases hs with rfl | rfl | rfl
  · exact nb_or k.1.1 ⟨hne, x1, y1⟩
  · exact nb_or k.1.2 ⟨hne, x1, y1⟩
  · exact nb_or k.2 ⟨hne, x1, y1⟩
/-- what work(true) leaves: parts of wholes are odds -/
theorem wk_true {n sz : Nat} {ch ro pl wi wm pt wh : List Int} (hI : Inv n sz ch ro pl wi) (hwm : WmO wi wm) (hw : WkI true sz ch wm pl pt wh (sz - 1)) {m : Int} (m0 : 0 ≤ m) (m1 : m < (sz : Int) - 1) : FrAll pl wi ch pl pt wh sz m := by
  have hs := hI.hs
  refine wk_fr hs hI.hv hI.hch hI.hcs hI.hdi hI.hwv hI.hwg (fun x x0 x1 => (rd8_g x0 (by omega)).symm) (fun q q0 q1 => ?_) (fun q q0 q1 => (hw q q0 q1).1) (m.toNat + 1) m (Nat.lt_succ_self _) m0 m1
  have e := hwm q q0 (by omega)
  have r := rd8_in hI.hwv q
  have t := tld_9 r.1 r.2
  rw [e]
  refine ⟨⟨fun z y => z.2 (t.mpr y), fun z => ⟨rfl, fun y => z (t.mp y)⟩⟩, fun z => ?_⟩
  unfold tld
  rw [if_neg z]
theorem fcA_0 {K : Int} {up : Prop} [Decidable up] (hK : 0 < K) : fcA 0 1 up = fcA 0 K up := fcA_cross (Int.le_refl 0) (by decide) (Int.le_refl 0) hK (by rw [Int.zero_mul, Int.zero_mul])
theorem odA_out {od : List Int} {r : Int} : odA od r (-1) = 0 := by
  unfold odA
  rw [if_neg (fun z => by omega)]
theorem ms_reach (d : Nat) {h : List mC} {g n sz : Nat} {ch ro pl wi : List Int} (hS : MS h g n sz ch ro pl wi) (hI : Inv n sz ch ro pl wi) {x r : Int} {up : Prop} [Decidable up] (od : List Int) (hW : (0 ≤ x ∧ x < n) → (0 ≤ r ∧ r ≤ lrA sz) → WgOk sz ch pl wi od) : Ct (d + 4) mX4_reach [mR g, mI x, mI r, mI (bI up)] h (fun r9 h9 => r9 = some (mL (spReach n sz pl od x r up)) ∧ MS h9 g n sz ch ro pl wi ∧ ∀ j : Nat, (j < g ∨ g + 14 ≤ j) → h9[j]? = h[j]?) := by
  obtain ⟨wm, lf, rt, ws, rw, pt, wh, on, tw, wo, wt, il, dr, dn, hM, hwm, hil, hdr, hf0⟩ := id hS
  obtain ⟨m0, m1, mch, map, mpl, mwm, mlf, mrt, mws, mrw, mpt, mwh, mon, mtw, mdn, lch, lap, lpl, lwm, llf, lrt, lws, lrw, lpt, lwh, lon, ltw, ldn, m8⟩ := id hM
  show Wp _ mX4_reach 0 [mR g, mI x, mI r, mI (bI up), mU, mU] [] h (0, 0) _
  refine wp_al0 (q := 1) dX4_reach_0 rfl (wp_il1 (q := 2) dX4_reach_1 rfl (wp_v1I (q := 5) dX4_reach_2 rfl q124 (Nat.le_of_ble_eq_true rfl) rfl m0 m1 rfl rfl ((mt_isPlayer 0 hM (by have := hI.hn; omega)).up (by omega)) (wp_ifb_ne (t := 12) (q := 8) dX4_reach_5 rfl rfl (fun c5 => ?_) (fun c5 => ?_))))
  · refine wp_il2 (q := 13) dX4_reach_12 rfl (wp_i2l (q := 14) dX4_reach_13 rfl (wp_lc0 (q := 15) dX4_reach_14 rfl (wp_al0 (q := 16) dX4_reach_15 rfl (wp_v0I (q := 19) dX4_reach_16 rfl q135 (Nat.le_of_ble_eq_true rfl) rfl m0 m1 rfl rfl ((mt_rounds 0 hM).up (by omega)) (wp_i2l (q := 20) dX4_reach_19 rfl (wp_s3I (q := 23) dX4_reach_20 rfl q122 (Nat.le_of_ble_eq_true rfl) rfl rfl rfl ((mt_in 0).up (by omega)) (wp_ifb_ne (t := 30) (q := 26) dX4_reach_23 rfl rfl (fun c23 => ?_) (fun c23 => ?_))))))))
    · refine wp_al0 (q := 31) dX4_reach_30 rfl (wp_il1 (q := 32) dX4_reach_31 rfl (wp_v1I (q := 35) dX4_reach_32 rfl q129 (Nat.le_of_ble_eq_true rfl) rfl m0 m1 rfl rfl ((mt_placeOf 0 hM).up (by omega)) ?_))
      obtain ⟨P, hP⟩ : ∃ P, P = pcM pl sz x := ⟨_, rfl⟩
      rw [← hP]
      have hn8 := hI.hn
      have qP := pcM_pl (pl := pl) (sz := sz) (v := x) (by omega) (by omega)
      have pP := plO_in (pl := pl) (sz := sz) (v := x)
      rw [← hP] at qP
      refine wp_is4 (q := 37) dX4_reach_35 rfl rfl (wp_il4 (q := 39) dX4_reach_37 rfl (wp_bi (q := 41) dX4_reach_39 rfl (by decide) (by decide) (wp_icmp_eq (t := 48) (q := 44) dX4_reach_41 rfl rfl (fun c41 => ?_) (fun c41 => ?_))))
      · refine wp_il4 (q := 50) dX4_reach_48 rfl (wp_bi (q := 52) dX4_reach_50 rfl (by decide) (by decide) (wp_icmp_ne (t := 59) (q := 55) dX4_reach_52 rfl rfl (fun c52 => ?_) (fun c52 => ?_)))
        · refine wp_lc1 (q := 60) dX4_reach_59 rfl (wp_lc1 (q := 61) dX4_reach_60 rfl (wp_il3 (q := 62) dX4_reach_61 rfl (wp_s3I (q := 65) dX4_reach_62 rfl q146 (Nat.le_of_ble_eq_true rfl) rfl rfl rfl ((mt_told 0 (by decide) (by decide)).up (by omega)) (wp_lret dX4_reach_65 rfl ?_))))
          refine ⟨rJ ?_, hS, fun _ _ => rfl⟩
          first
            | (exfalso; omega)
            | (have hp : plO pl sz x = -1 := by omega
               unfold spReach
               rw [if_neg (by omega), if_neg (by omega), hp, odA_out]
               exact fcA_0 (pts_pos (by omega) (by have := lrA_in m8; omega)))
            | (have hr0 : r = 0 := by omega
               have hWq := hW (by omega) (by have := lrA_in m8; omega)
               have hb := (plO_iff (sz := sz) (by omega) hI.hdi (by omega : x ≠ 8) (x := plO pl sz x) (by omega) (by omega)).mpr rfl
               unfold spReach
               rw [if_neg (by omega), if_neg (by omega), hWq.at (by omega) (by have := lrA_in m8; omega) (by omega) (by omega), hr0]
               show fcA 1 1 up = fcA (if rd8 pl (plO pl sz x) = 8 then 0 else 1) (pts 0) up
               rw [if_neg (by omega)]
               rfl)
        · refine wp_lc0 (q := 56) dX4_reach_55 rfl (wp_goto (q := 60) dX4_reach_56 rfl (wp_lc1 (q := 61) dX4_reach_60 rfl (wp_il3 (q := 62) dX4_reach_61 rfl (wp_s3I (q := 65) dX4_reach_62 rfl q146 (Nat.le_of_ble_eq_true rfl) rfl rfl rfl ((mt_told 0 (by decide) (by decide)).up (by omega)) (wp_lret dX4_reach_65 rfl ?_)))))
          refine ⟨rJ ?_, hS, fun _ _ => rfl⟩
          first
            | (exfalso; omega)
            | (have hp : plO pl sz x = -1 := by omega
               unfold spReach
               rw [if_neg (by omega), if_neg (by omega), hp, odA_out]
               exact fcA_0 (pts_pos (by omega) (by have := lrA_in m8; omega)))
            | (have hr0 : r = 0 := by omega
               have hWq := hW (by omega) (by have := lrA_in m8; omega)
               have hb := (plO_iff (sz := sz) (by omega) hI.hdi (by omega : x ≠ 8) (x := plO pl sz x) (by omega) (by omega)).mpr rfl
               unfold spReach
               rw [if_neg (by omega), if_neg (by omega), hWq.at (by omega) (by have := lrA_in m8; omega) (by omega) (by omega), hr0]
               show fcA 1 1 up = fcA (if rd8 pl (plO pl sz x) = 8 then 0 else 1) (pts 0) up
               rw [if_neg (by omega)]
               rfl)
      · refine wp_il2 (q := 45) dX4_reach_44 rfl (wp_if_ne (t := 66) (q := 48) dX4_reach_45 rfl rfl (fun c45 => ?_) (fun c45 => ?_))
        · refine wp_al0 (q := 67) dX4_reach_66 rfl (wp_v0 (q := 70) dX4_reach_67 rfl q147 (Nat.le_of_ble_eq_true rfl) rfl m0 m1 rfl rfl ((mt_layPlaces 0 hM).up (by omega)) (fun r9 h9 e9 => ?_))
          obtain ⟨rfl, hM, hf9⟩ := e9
          show Wp _ _ _ _ [] _ _ _
          obtain ⟨m0, m1, mch, map, mpl, mwm, mlf, mrt, mws, mrw, mpt, mwh, mon, mtw, mdn, lch, lap, lpl, lwm, llf, lrt, lws, lrw, lpt, lwh, lon, ltw, ldn, m8⟩ := id hM
          refine wp_al0 (q := 71) dX4_reach_70 rfl (wp_ic (q := 72) dX4_reach_71 rfl (by decide) (by decide) (wp_v1 (q := 75) dX4_reach_72 rfl q148 (Nat.le_of_ble_eq_true rfl) rfl m0 m1 rfl rfl ((mt_work 0 hM hI.hch (dec := true)).up (by omega)) (fun r9 h9 e9 => ?_)))
          obtain ⟨rfl, ⟨pt, wh, on, tw, wo, wt, hM, hwk⟩, hf10⟩ := e9
          show Wp _ _ _ _ [] _ _ _
          obtain ⟨m0, m1, mch, map, mpl, mwm, mlf, mrt, mws, mrw, mpt, mwh, mon, mtw, mdn, lch, lap, lpl, lwm, llf, lrt, lws, lrw, lpt, lwh, lon, ltw, ldn, m8⟩ := id hM
          refine wp_al0 (q := 76) dX4_reach_75 rfl (wp_il4 (q := 78) dX4_reach_76 rfl (wp_il2 (q := 79) dX4_reach_78 rfl (wp_v2I (q := 82) dX4_reach_79 rfl q151 (Nat.le_of_ble_eq_true rfl) rfl m0 m1 rfl rfl ((mt_above 0 hM (x := P) (by omega) (by omega) (by omega) (by omega)).up (by omega)) ?_)))
          have hlr := lrA_in m8
          have hix := ab_ix (sz := (sz : Int)) m8 (by omega : 1 ≤ r) (by omega) (by omega : 0 ≤ P) (by omega)
          unfold abI at hix
          obtain ⟨M, hMe⟩ : ∃ M, M = fmA sz r + P / p2A r := ⟨_, rfl⟩
          rw [← hMe] at hix
          rw [← hMe]
          obtain ⟨x1, x2, x3, x4, x5⟩ := hix
          have hF := (wk_true hI hwm hwk x1 x2).2.2
          rw [x3] at hF
          refine wp_is5 (q := 84) dX4_reach_82 rfl rfl (wp_al0 (q := 85) dX4_reach_84 rfl (wp_getf (q := 88) dX4_reach_85 rfl f32 m0 m1 rfl (fun z => nomatch z) (wp_bi (q := 90) dX4_reach_88 rfl (by decide) (by decide) (wp_il5 (q := 92) dX4_reach_90 rfl (wp_imul (q := 93) dX4_reach_92 rfl (by omega) (by omega) (wp_il1 (q := 94) dX4_reach_93 rfl (wp_iadd (q := 95) dX4_reach_94 rfl (by omega) (by omega) (wp_laload (q := 96) dX4_reach_95 rfl mpt (by omega) (by omega) (wp_al0 (q := 97) dX4_reach_96 rfl (wp_getf (q := 100) dX4_reach_97 rfl f33 m0 m1 rfl (fun z => nomatch z) (wp_il5 (q := 102) dX4_reach_100 rfl (wp_laload (q := 103) dX4_reach_102 rfl mwh (by omega) (by omega) (wp_il3 (q := 104) dX4_reach_103 rfl ?_)))))))))))))
          refine wp_s3I (q := 107) dX4_reach_104 rfl q146 (Nat.le_of_ble_eq_true rfl) rfl rfl rfl ((mt_told 0 (hF.2.1 x (by omega) (by omega)) hF.1).up (by omega)) (wp_lret dX4_reach_107 rfl ?_)
          refine ⟨rJ ?_, ⟨wm, lf, rt, ws, pl, pt, wh, on, tw, wo, wt, il, dr, dn, hM, hwm, hil, hdr, trivial⟩, fun j hj => (hf10 j hj).trans (hf9 j hj)⟩
          have hWq := hW (by omega) (by omega)
          have hb := (plO_iff (sz := sz) (by omega) hI.hdi (by omega : x ≠ 8) (x := plO pl sz x) (by omega) (by omega)).mpr rfl
          unfold spReach
          rw [if_neg (by omega), if_neg (by omega), hWq.at (by omega) (by omega) (by omega) (by omega)]
          have z := fun a b c d e => fr_reach (up := up) (v := x) (y := plO pl sz x) (fun y => (odR_in (pl := pl) (wi := wi) (sz := sz) hI.hch r.toNat (by omega) y).1) (pts_pos (by omega) (by omega)) hF a b c d e
          exact z (by omega) (by omega) hb (by omega) (by omega)
        · refine wp_il4 (q := 50) dX4_reach_48 rfl (wp_bi (q := 52) dX4_reach_50 rfl (by decide) (by decide) (wp_icmp_ne (t := 59) (q := 55) dX4_reach_52 rfl rfl (fun c52 => ?_) (fun c52 => ?_)))
          · refine wp_lc1 (q := 60) dX4_reach_59 rfl (wp_lc1 (q := 61) dX4_reach_60 rfl (wp_il3 (q := 62) dX4_reach_61 rfl (wp_s3I (q := 65) dX4_reach_62 rfl q146 (Nat.le_of_ble_eq_true rfl) rfl rfl rfl ((mt_told 0 (by decide) (by decide)).up (by omega)) (wp_lret dX4_reach_65 rfl ?_))))
            refine ⟨rJ ?_, hS, fun _ _ => rfl⟩
            first
              | (exfalso; omega)
              | (have hp : plO pl sz x = -1 := by omega
                 unfold spReach
                 rw [if_neg (by omega), if_neg (by omega), hp, odA_out]
                 exact fcA_0 (pts_pos (by omega) (by have := lrA_in m8; omega)))
              | (have hr0 : r = 0 := by omega
                 have hWq := hW (by omega) (by have := lrA_in m8; omega)
                 have hb := (plO_iff (sz := sz) (by omega) hI.hdi (by omega : x ≠ 8) (x := plO pl sz x) (by omega) (by omega)).mpr rfl
                 unfold spReach
                 rw [if_neg (by omega), if_neg (by omega), hWq.at (by omega) (by have := lrA_in m8; omega) (by omega) (by omega), hr0]
                 show fcA 1 1 up = fcA (if rd8 pl (plO pl sz x) = 8 then 0 else 1) (pts 0) up
                 rw [if_neg (by omega)]
                 rfl)
          · refine wp_lc0 (q := 56) dX4_reach_55 rfl (wp_goto (q := 60) dX4_reach_56 rfl (wp_lc1 (q := 61) dX4_reach_60 rfl (wp_il3 (q := 62) dX4_reach_61 rfl (wp_s3I (q := 65) dX4_reach_62 rfl q146 (Nat.le_of_ble_eq_true rfl) rfl rfl rfl ((mt_told 0 (by decide) (by decide)).up (by omega)) (wp_lret dX4_reach_65 rfl ?_)))))
            refine ⟨rJ ?_, hS, fun _ _ => rfl⟩
            first
              | (exfalso; omega)
              | (have hp : plO pl sz x = -1 := by omega
                 unfold spReach
                 rw [if_neg (by omega), if_neg (by omega), hp, odA_out]
                 exact fcA_0 (pts_pos (by omega) (by have := lrA_in m8; omega)))
              | (have hr0 : r = 0 := by omega
                 have hWq := hW (by omega) (by have := lrA_in m8; omega)
                 have hb := (plO_iff (sz := sz) (by omega) hI.hdi (by omega : x ≠ 8) (x := plO pl sz x) (by omega) (by omega)).mpr rfl
                 unfold spReach
                 rw [if_neg (by omega), if_neg (by omega), hWq.at (by omega) (by have := lrA_in m8; omega) (by omega) (by omega), hr0]
                 show fcA 1 1 up = fcA (if rd8 pl (plO pl sz x) = 8 then 0 else 1) (pts 0) up
                 rw [if_neg (by omega)]
                 rfl)
    · refine wp_ldl (-2) (q := 29) dX4_reach_26 rfl l12 (by decide) (by decide) (wp_lret dX4_reach_29 rfl ?_)
      exact ⟨rJ (by unfold spReach; rw [if_neg (by omega), if_pos (by omega)]), hS, fun _ _ => rfl⟩
  · refine wp_ldl (-1) (q := 11) dX4_reach_8 rfl l11 (by decide) (by decide) (wp_lret dX4_reach_11 rfl ?_)
    exact ⟨rJ (by unfold spReach; rw [if_pos (by omega)]), hS, fun _ _ => rfl⟩
theorem ms_meet (d : Nat) {h : List mC} {g n sz : Nat} {ch ro pl wi : List Int} (hS : MS h g n sz ch ro pl wi) (hI : Inv n sz ch ro pl wi) {x y r : Int} {up : Prop} [Decidable up] (od : List Int) (hW : ((0 ≤ x ∧ x < n) ∧ (0 ≤ y ∧ y < n)) → (0 ≤ r ∧ r ≤ lrA sz) → plO pl sz x ≠ -1 → plO pl sz y ≠ -1 → (r = 0 ∨ r = mrA (plO pl sz x) (plO pl sz y)) → x ≠ y → WgOk sz ch pl wi od) : Ct (d + 4) mX4_meet [mR g, mI x, mI y, mI r, mI (bI up)] h (fun r9 h9 => r9 = some (mL (spMeet n sz pl od x y r up)) ∧ MS h9 g n sz ch ro pl wi ∧ ∀ j : Nat, (j < g ∨ g + 14 ≤ j) → h9[j]? = h[j]?) := by
  obtain ⟨wm, lf, rt, ws, rw, pt, wh, on, tw, wo, wt, il, dr, dn, hM, hwm, hil, hdr, hf0⟩ := id hS
  obtain ⟨m0, m1, mch, map, mpl, mwm, mlf, mrt, mws, mrw, mpt, mwh, mon, mtw, mdn, lch, lap, lpl, lwm, llf, lrt, lws, lrw, lpt, lwh, lon, ltw, ldn, m8⟩ := id hM
  show Wp _ mX4_meet 0 [mR g, mI x, mI y, mI r, mI (bI up), mU, mU, mU] [] h (0, 0) _
  refine wp_al0 (q := 1) dX4_meet_0 rfl (wp_il1 (q := 2) dX4_meet_1 rfl (wp_v1I (q := 5) dX4_meet_2 rfl q124 (Nat.le_of_ble_eq_true rfl) rfl m0 m1 rfl rfl ((mt_isPlayer 0 hM (by have := hI.hn; omega)).up (by omega)) (wp_ifb_eq (t := 16) (q := 8) dX4_meet_5 rfl rfl (fun c5 => ?_) (fun c5 => ?_))))
  · refine wp_ldl (-1) (q := 19) dX4_meet_16 rfl l11 (by decide) (by decide) (wp_lret dX4_meet_19 rfl ?_)
    exact ⟨rJ (by unfold spMeet; rw [if_pos (by omega)]), hS, fun _ _ => rfl⟩
  · refine wp_al0 (q := 9) dX4_meet_8 rfl (wp_il2 (q := 10) dX4_meet_9 rfl (wp_v1I (q := 13) dX4_meet_10 rfl q124 (Nat.le_of_ble_eq_true rfl) rfl m0 m1 rfl rfl ((mt_isPlayer 0 hM (by have := hI.hn; omega)).up (by omega)) (wp_ifb_ne (t := 20) (q := 16) dX4_meet_13 rfl rfl (fun c13 => ?_) (fun c13 => ?_))))
    · refine wp_il3 (q := 21) dX4_meet_20 rfl (wp_i2l (q := 22) dX4_meet_21 rfl (wp_lc0 (q := 23) dX4_meet_22 rfl (wp_al0 (q := 24) dX4_meet_23 rfl (wp_v0I (q := 27) dX4_meet_24 rfl q135 (Nat.le_of_ble_eq_true rfl) rfl m0 m1 rfl rfl ((mt_rounds 0 hM).up (by omega)) (wp_i2l (q := 28) dX4_meet_27 rfl (wp_s3I (q := 31) dX4_meet_28 rfl q122 (Nat.le_of_ble_eq_true rfl) rfl rfl rfl ((mt_in 0).up (by omega)) (wp_ifb_ne (t := 38) (q := 34) dX4_meet_31 rfl rfl (fun c31 => ?_) (fun c31 => ?_))))))))
      · refine wp_il1 (q := 39) dX4_meet_38 rfl (wp_il2 (q := 40) dX4_meet_39 rfl (wp_icmp_ne (t := 47) (q := 43) dX4_meet_40 rfl rfl (fun c40 => ?_) (fun c40 => ?_)))
        · refine wp_al0 (q := 48) dX4_meet_47 rfl (wp_il1 (q := 49) dX4_meet_48 rfl (wp_v1I (q := 52) dX4_meet_49 rfl q129 (Nat.le_of_ble_eq_true rfl) rfl m0 m1 rfl rfl ((mt_placeOf 0 hM).up (by omega)) ?_))
          obtain ⟨P, hP⟩ : ∃ P, P = pcM pl sz x := ⟨_, rfl⟩
          rw [← hP]
          have hn8 := hI.hn
          have qP := pcM_pl (pl := pl) (sz := sz) (v := x) (by omega) (by omega)
          have pP := plO_in (pl := pl) (sz := sz) (v := x)
          rw [← hP] at qP
          refine wp_is5 (q := 54) dX4_meet_52 rfl rfl (wp_al0 (q := 55) dX4_meet_54 rfl (wp_il2 (q := 56) dX4_meet_55 rfl (wp_v1I (q := 59) dX4_meet_56 rfl q129 (Nat.le_of_ble_eq_true rfl) rfl m0 m1 rfl rfl ((mt_placeOf 0 hM).up (by omega)) ?_)))
          obtain ⟨R, hR⟩ : ∃ P, P = pcM pl sz y := ⟨_, rfl⟩
          rw [← hR]
          have hn8 := hI.hn
          have qR := pcM_pl (pl := pl) (sz := sz) (v := y) (by omega) (by omega)
          have pR := plO_in (pl := pl) (sz := sz) (v := y)
          rw [← hR] at qR
          refine wp_is6 (q := 61) dX4_meet_59 rfl rfl (wp_il5 (q := 63) dX4_meet_61 rfl (wp_bi (q := 65) dX4_meet_63 rfl (by decide) (by decide) (wp_icmp_eq (t := 75) (q := 68) dX4_meet_65 rfl rfl (fun c65 => ?_) (fun c65 => ?_))))
          · refine wp_lc0 (q := 76) dX4_meet_75 rfl (wp_lc1 (q := 77) dX4_meet_76 rfl (wp_il4 (q := 79) dX4_meet_77 rfl (wp_s3I (q := 82) dX4_meet_79 rfl q146 (Nat.le_of_ble_eq_true rfl) rfl rfl rfl ((mt_told 0 (by decide) (by decide)).up (by omega)) (wp_lret dX4_meet_82 rfl ?_))))
            exact ⟨rJ (by unfold spMeet; rw [if_neg (by omega), if_neg (by omega), if_neg (by omega), if_pos (by omega)]), hS, fun _ _ => rfl⟩
          · refine wp_il6 (q := 70) dX4_meet_68 rfl (wp_bi (q := 72) dX4_meet_70 rfl (by decide) (by decide) (wp_icmp_ne (t := 83) (q := 75) dX4_meet_72 rfl rfl (fun c72 => ?_) (fun c72 => ?_)))
            · refine wp_il5 (q := 85) dX4_meet_83 rfl (wp_il6 (q := 87) dX4_meet_85 rfl (wp_s2I (q := 90) dX4_meet_87 rfl q153 (Nat.le_of_ble_eq_true rfl) rfl rfl rfl ((mt_meetRound 0 (x := P) (y := R) (by omega) (by omega) (by omega) (by omega)).up (by omega)) ?_))
              have hq0 := mrA_lr (sz := sz) m8 (x := P) (y := R) (by omega) (by omega) (by omega) (by omega)
              have hq1 : 1 ≤ mrA P R := by unfold mrA; (repeat' split) <;> omega
              obtain ⟨q, hqe⟩ : ∃ q, q = mrA P R := ⟨_, rfl⟩
              rw [← hqe] at hq0 hq1
              rw [← hqe]
              have hWr : r = 0 ∨ r = q → WgOk sz ch pl wi od := fun z => hW (by omega) (by omega) (by omega) (by omega) (by rw [← qP.2 (by omega), ← qR.2 (by omega), ← hqe]; exact z) (by omega)
              refine wp_is7 (q := 92) dX4_meet_90 rfl rfl (wp_il3 (q := 93) dX4_meet_92 rfl (wp_if_eq (t := 110) (q := 96) dX4_meet_93 rfl rfl (fun c93 => ?_) (fun c93 => ?_)))
              · refine wp_al0 (q := 111) dX4_meet_110 rfl (wp_v0 (q := 114) dX4_meet_111 rfl q147 (Nat.le_of_ble_eq_true rfl) rfl m0 m1 rfl rfl ((mt_layPlaces 0 hM).up (by omega)) (fun r9 h9 e9 => ?_))
                obtain ⟨rfl, hM, hf9⟩ := e9
                show Wp _ _ _ _ [] _ _ _
                obtain ⟨m0, m1, mch, map, mpl, mwm, mlf, mrt, mws, mrw, mpt, mwh, mon, mtw, mdn, lch, lap, lpl, lwm, llf, lrt, lws, lrw, lpt, lwh, lon, ltw, ldn, m8⟩ := id hM
                refine wp_al0 (q := 115) dX4_meet_114 rfl (wp_ic (q := 116) dX4_meet_115 rfl (by decide) (by decide) (wp_v1 (q := 119) dX4_meet_116 rfl q148 (Nat.le_of_ble_eq_true rfl) rfl m0 m1 rfl rfl ((mt_work 0 hM hI.hch (dec := true)).up (by omega)) (fun r9 h9 e9 => ?_)))
                obtain ⟨rfl, ⟨pt, wh, on, tw, wo, wt, hM, hwk⟩, hf10⟩ := e9
                show Wp _ _ _ _ [] _ _ _
                obtain ⟨m0, m1, mch, map, mpl, mwm, mlf, mrt, mws, mrw, mpt, mwh, mon, mtw, mdn, lch, lap, lpl, lwm, llf, lrt, lws, lrw, lpt, lwh, lon, ltw, ldn, m8⟩ := id hM
                refine wp_al0 (q := 120) dX4_meet_119 rfl (wp_al0 (q := 121) dX4_meet_120 rfl (wp_il5 (q := 123) dX4_meet_121 rfl (wp_il7 (q := 125) dX4_meet_123 rfl (wp_v2I (q := 128) dX4_meet_125 rfl q151 (Nat.le_of_ble_eq_true rfl) rfl m0 m1 rfl rfl ((mt_above 0 hM (x := P) (r := q) (by omega) (by omega) (by omega) (by omega)).up (by omega)) ?_))))
                have hlr := lrA_in m8
                have bxp := (plO_iff (sz := sz) (by omega) hI.hdi (by omega : x ≠ 8) (x := P) (by omega) (by omega)).mpr (by omega)
                have byp := (plO_iff (sz := sz) (by omega) hI.hdi (by omega : y ≠ 8) (x := R) (by omega) (by omega)).mpr (by omega)
                have hix := mt_ix (sz := (sz : Int)) m8 (by omega : 0 ≤ P) (by omega) (by omega : 0 ≤ R) (by omega) (fun z => by rw [z] at bxp; omega)
                unfold mtI at hix
                rw [← hqe] at hix
                obtain ⟨M, hMe⟩ : ∃ M, M = fmA sz q + P / p2A q := ⟨_, rfl⟩
                rw [← hMe] at hix
                rw [← hMe]
                obtain ⟨x1, x2, x3, x4⟩ := hix
                obtain ⟨⟨w1, F0, F2, -, -, -, -⟩, -, -, -⟩ := ix2 (sz := (sz : Int)) m8 x1 x2
                have hF := wk_true hI hwm hwk x1 x2
                obtain ⟨hF1, hF2, -⟩ := hF
                rw [x3] at hF1 hF2
                have x4' := fun _ : Nat => x4
                clear x4
                refine wp_v1 (q := 131) dX4_meet_128 rfl q149 (Nat.le_of_ble_eq_true rfl) rfl m0 m1 rfl rfl ((mt_sides 0 hM x1 x2).up (by omega)) (fun r9 h9 e9 => ?_)
                obtain ⟨rfl, ⟨on, tw, wo, wt, hM, hsd⟩, hf11⟩ := e9
                show Wp _ _ _ _ [] _ _ _
                have hsb := wk_side m8 (fun m a b => hwk m a (by omega)) x1 x2 hsd
                have hq := ptB_st (r := q) (by omega) (by omega)
                obtain ⟨m0, m1, mch, map, mpl, mwm, mlf, mrt, mws, mrw, mpt, mwh, mon, mtw, mdn, lch, lap, lpl, lwm, llf, lrt, lws, lrw, lpt, lwh, lon, ltw, ldn, m8⟩ := id hM
                rw [x3] at hsb
                obtain ⟨hsd1, hsd2, hsd3⟩ := hsd
                have ex := hsd1 x (by omega) (by omega)
                have ey := hsd1 y (by omega) (by omega)
                have bx := hsb.1 x (by omega) (by omega)
                have b_y := hsb.1 y (by omega) (by omega)
                have hk8 : ptB (q - 1) ≤ 7077888 := by
                  rcases (show q = 1 ∨ q = 2 ∨ q = 3 by omega) with e | e | e <;> rw [e] <;> decide
                have hww := mul_in (by omega : 0 ≤ wo) (by omega : wo ≤ 1728) (by omega : 0 ≤ wt) (by omega : wt ≤ 1728)
                have hpp := mul_in (by omega : 0 ≤ gI on x + gI tw x) (by omega : gI on x + gI tw x ≤ 14155776) (by omega : 0 ≤ gI on y + gI tw y) (by omega : gI on y + gI tw y ≤ 14155776)
                have hw0 := Int.mul_pos (by omega : 0 < wo) (by omega : 0 < wt)
                have cx : (0 ≤ on.getD x.toNat 0 ∧ on.getD x.toNat 0 ≤ 7077888) ∧ (0 ≤ tw.getD x.toNat 0 ∧ tw.getD x.toNat 0 ≤ 7077888) := by unfold gI at bx; omega
                have cy : (0 ≤ on.getD y.toNat 0 ∧ on.getD y.toNat 0 ≤ 7077888) ∧ (0 ≤ tw.getD y.toNat 0 ∧ tw.getD y.toNat 0 ≤ 7077888) := by unfold gI at b_y; omega
                have hpp2 : 0 ≤ (on.getD x.toNat 0 + tw.getD x.toNat 0) * (on.getD y.toNat 0 + tw.getD y.toNat 0) ∧ (on.getD x.toNat 0 + tw.getD x.toNat 0) * (on.getD y.toNat 0 + tw.getD y.toNat 0) ≤ 14155776 * 14155776 := hpp
                refine wp_al0 (q := 132) dX4_meet_131 rfl (wp_getf (q := 135) dX4_meet_132 rfl f34 m0 m1 rfl (fun z => nomatch z) (wp_il1 (q := 136) dX4_meet_135 rfl (wp_laload (q := 137) dX4_meet_136 rfl mon (by omega) (by omega) (wp_al0 (q := 138) dX4_meet_137 rfl (wp_getf (q := 141) dX4_meet_138 rfl f35 m0 m1 rfl (fun z => nomatch z) (wp_il1 (q := 142) dX4_meet_141 rfl (wp_laload (q := 143) dX4_meet_142 rfl mtw (by omega) (by omega) (wp_ladd (q := 144) dX4_meet_143 rfl (by omega) (by omega) (wp_al0 (q := 145) dX4_meet_144 rfl (wp_getf (q := 148) dX4_meet_145 rfl f34 m0 m1 rfl (fun z => nomatch z) (wp_il2 (q := 149) dX4_meet_148 rfl (wp_laload (q := 150) dX4_meet_149 rfl mon (by omega) (by omega) (wp_al0 (q := 151) dX4_meet_150 rfl ?_)))))))))))))
                refine wp_getf (q := 154) dX4_meet_151 rfl f35 m0 m1 rfl (fun z => nomatch z) (wp_il2 (q := 155) dX4_meet_154 rfl (wp_laload (q := 156) dX4_meet_155 rfl mtw (by omega) (by omega) (wp_ladd (q := 157) dX4_meet_156 rfl (by omega) (by omega) (wp_lmul (q := 158) dX4_meet_157 rfl (by omega) (by omega) (wp_al0 (q := 159) dX4_meet_158 rfl (wp_getf (q := 162) dX4_meet_159 rfl f36 m0 m1 rfl (fun z => nomatch z) (wp_al0 (q := 163) dX4_meet_162 rfl (wp_getf (q := 166) dX4_meet_163 rfl f37 m0 m1 rfl (fun z => nomatch z) (wp_lmul (q := 167) dX4_meet_166 rfl (by omega) (by omega) (wp_il4 (q := 169) dX4_meet_167 rfl (wp_s3I (q := 172) dX4_meet_169 rfl q146 (Nat.le_of_ble_eq_true rfl) rfl rfl rfl ((mt_told 0 hpp2.1 hw0).up (by omega)) (wp_lret dX4_meet_172 rfl ?_))))))))))))
                refine ⟨rJ ?_, ⟨wm, lf, rt, ws, pl, pt, wh, on, tw, wo, wt, il, dr, dn, hM, hwm, hil, hdr, trivial⟩, fun j hj => (hf11 j hj).trans ((hf10 j hj).trans (hf9 j hj))⟩
                have hWq := hWr (by omega)
                have hn := fun y => (odR_in (pl := pl) (wi := wi) (sz := sz) hI.hch (q - 1).toNat (by omega) y).1
                unfold spMeet
                rw [if_neg (by omega), if_neg (by omega), if_neg (by omega), if_neg (by omega), ← qP.2 (by omega), ← qR.2 (by omega), ← hqe, if_neg (by omega), hWq.at (by omega) (by omega) (by omega) (by omega), hWq.at (by omega) (by omega) (by omega) (by omega)]
                have hd := fun s t (s0 : fpO sz M ≤ s) (s1 : s < fpO sz M + 2 * hfA sz M) (t0 : fpO sz M ≤ t) (t1 : t < fpO sz M + 2 * hfA sz M) => hI.hdi s t (by omega) (by omega) (by omega) (by omega)
                show fcA ((gI on x + gI tw x) * (gI on y + gI tw y)) (wo * wt) up = _
                rw [ex.1, ex.2, ey.1, ey.2, hsd2, hsd3]
                rcases x4' 0 with ⟨y1, y2, y3, y4⟩ | ⟨y1, y2, y3, y4⟩
                · exact (fr_meet hn (pts_pos (by omega) (by omega)) hF1 hF2 hd (by omega) y1 y2 y3 y4 bxp byp (by omega) (by omega) (by omega) (by omega)).1
                · exact (fr_meet hn (pts_pos (by omega) (by omega)) hF1 hF2 hd (by omega) y1 y2 y3 y4 byp bxp (by omega) (by omega) (by omega) (by omega)).2
              · refine wp_il3 (q := 97) dX4_meet_96 rfl (wp_il7 (q := 99) dX4_meet_97 rfl (wp_icmp_eq (t := 110) (q := 102) dX4_meet_99 rfl rfl (fun c99 => ?_) (fun c99 => ?_)))
                · refine wp_al0 (q := 111) dX4_meet_110 rfl (wp_v0 (q := 114) dX4_meet_111 rfl q147 (Nat.le_of_ble_eq_true rfl) rfl m0 m1 rfl rfl ((mt_layPlaces 0 hM).up (by omega)) (fun r9 h9 e9 => ?_))
                  obtain ⟨rfl, hM, hf9⟩ := e9
                  show Wp _ _ _ _ [] _ _ _
                  obtain ⟨m0, m1, mch, map, mpl, mwm, mlf, mrt, mws, mrw, mpt, mwh, mon, mtw, mdn, lch, lap, lpl, lwm, llf, lrt, lws, lrw, lpt, lwh, lon, ltw, ldn, m8⟩ := id hM
                  refine wp_al0 (q := 115) dX4_meet_114 rfl (wp_ic (q := 116) dX4_meet_115 rfl (by decide) (by decide) (wp_v1 (q := 119) dX4_meet_116 rfl q148 (Nat.le_of_ble_eq_true rfl) rfl m0 m1 rfl rfl ((mt_work 0 hM hI.hch (dec := true)).up (by omega)) (fun r9 h9 e9 => ?_)))
                  obtain ⟨rfl, ⟨pt, wh, on, tw, wo, wt, hM, hwk⟩, hf10⟩ := e9
                  show Wp _ _ _ _ [] _ _ _
                  obtain ⟨m0, m1, mch, map, mpl, mwm, mlf, mrt, mws, mrw, mpt, mwh, mon, mtw, mdn, lch, lap, lpl, lwm, llf, lrt, lws, lrw, lpt, lwh, lon, ltw, ldn, m8⟩ := id hM
                  refine wp_al0 (q := 120) dX4_meet_119 rfl (wp_al0 (q := 121) dX4_meet_120 rfl (wp_il5 (q := 123) dX4_meet_121 rfl (wp_il7 (q := 125) dX4_meet_123 rfl (wp_v2I (q := 128) dX4_meet_125 rfl q151 (Nat.le_of_ble_eq_true rfl) rfl m0 m1 rfl rfl ((mt_above 0 hM (x := P) (r := q) (by omega) (by omega) (by omega) (by omega)).up (by omega)) ?_))))
                  have hlr := lrA_in m8
                  have bxp := (plO_iff (sz := sz) (by omega) hI.hdi (by omega : x ≠ 8) (x := P) (by omega) (by omega)).mpr (by omega)
                  have byp := (plO_iff (sz := sz) (by omega) hI.hdi (by omega : y ≠ 8) (x := R) (by omega) (by omega)).mpr (by omega)
                  have hix := mt_ix (sz := (sz : Int)) m8 (by omega : 0 ≤ P) (by omega) (by omega : 0 ≤ R) (by omega) (fun z => by rw [z] at bxp; omega)
                  unfold mtI at hix
                  rw [← hqe] at hix
                  obtain ⟨M, hMe⟩ : ∃ M, M = fmA sz q + P / p2A q := ⟨_, rfl⟩
                  rw [← hMe] at hix
                  rw [← hMe]
                  obtain ⟨x1, x2, x3, x4⟩ := hix
                  obtain ⟨⟨w1, F0, F2, -, -, -, -⟩, -, -, -⟩ := ix2 (sz := (sz : Int)) m8 x1 x2
                  have hF := wk_true hI hwm hwk x1 x2
                  obtain ⟨hF1, hF2, -⟩ := hF
                  rw [x3] at hF1 hF2
                  have x4' := fun _ : Nat => x4
                  clear x4
                  refine wp_v1 (q := 131) dX4_meet_128 rfl q149 (Nat.le_of_ble_eq_true rfl) rfl m0 m1 rfl rfl ((mt_sides 0 hM x1 x2).up (by omega)) (fun r9 h9 e9 => ?_)
                  obtain ⟨rfl, ⟨on, tw, wo, wt, hM, hsd⟩, hf11⟩ := e9
                  show Wp _ _ _ _ [] _ _ _
                  have hsb := wk_side m8 (fun m a b => hwk m a (by omega)) x1 x2 hsd
                  have hq := ptB_st (r := q) (by omega) (by omega)
                  obtain ⟨m0, m1, mch, map, mpl, mwm, mlf, mrt, mws, mrw, mpt, mwh, mon, mtw, mdn, lch, lap, lpl, lwm, llf, lrt, lws, lrw, lpt, lwh, lon, ltw, ldn, m8⟩ := id hM
                  rw [x3] at hsb
                  obtain ⟨hsd1, hsd2, hsd3⟩ := hsd
                  have ex := hsd1 x (by omega) (by omega)
                  have ey := hsd1 y (by omega) (by omega)
                  have bx := hsb.1 x (by omega) (by omega)
                  have b_y := hsb.1 y (by omega) (by omega)
                  have hk8 : ptB (q - 1) ≤ 7077888 := by
                    rcases (show q = 1 ∨ q = 2 ∨ q = 3 by omega) with e | e | e <;> rw [e] <;> decide
                  have hww := mul_in (by omega : 0 ≤ wo) (by omega : wo ≤ 1728) (by omega : 0 ≤ wt) (by omega : wt ≤ 1728)
                  have hpp := mul_in (by omega : 0 ≤ gI on x + gI tw x) (by omega : gI on x + gI tw x ≤ 14155776) (by omega : 0 ≤ gI on y + gI tw y) (by omega : gI on y + gI tw y ≤ 14155776)
                  have hw0 := Int.mul_pos (by omega : 0 < wo) (by omega : 0 < wt)
                  have cx : (0 ≤ on.getD x.toNat 0 ∧ on.getD x.toNat 0 ≤ 7077888) ∧ (0 ≤ tw.getD x.toNat 0 ∧ tw.getD x.toNat 0 ≤ 7077888) := by unfold gI at bx; omega
                  have cy : (0 ≤ on.getD y.toNat 0 ∧ on.getD y.toNat 0 ≤ 7077888) ∧ (0 ≤ tw.getD y.toNat 0 ∧ tw.getD y.toNat 0 ≤ 7077888) := by unfold gI at b_y; omega
                  have hpp2 : 0 ≤ (on.getD x.toNat 0 + tw.getD x.toNat 0) * (on.getD y.toNat 0 + tw.getD y.toNat 0) ∧ (on.getD x.toNat 0 + tw.getD x.toNat 0) * (on.getD y.toNat 0 + tw.getD y.toNat 0) ≤ 14155776 * 14155776 := hpp
                  refine wp_al0 (q := 132) dX4_meet_131 rfl (wp_getf (q := 135) dX4_meet_132 rfl f34 m0 m1 rfl (fun z => nomatch z) (wp_il1 (q := 136) dX4_meet_135 rfl (wp_laload (q := 137) dX4_meet_136 rfl mon (by omega) (by omega) (wp_al0 (q := 138) dX4_meet_137 rfl (wp_getf (q := 141) dX4_meet_138 rfl f35 m0 m1 rfl (fun z => nomatch z) (wp_il1 (q := 142) dX4_meet_141 rfl (wp_laload (q := 143) dX4_meet_142 rfl mtw (by omega) (by omega) (wp_ladd (q := 144) dX4_meet_143 rfl (by omega) (by omega) (wp_al0 (q := 145) dX4_meet_144 rfl (wp_getf (q := 148) dX4_meet_145 rfl f34 m0 m1 rfl (fun z => nomatch z) (wp_il2 (q := 149) dX4_meet_148 rfl (wp_laload (q := 150) dX4_meet_149 rfl mon (by omega) (by omega) (wp_al0 (q := 151) dX4_meet_150 rfl ?_)))))))))))))
                  refine wp_getf (q := 154) dX4_meet_151 rfl f35 m0 m1 rfl (fun z => nomatch z) (wp_il2 (q := 155) dX4_meet_154 rfl (wp_laload (q := 156) dX4_meet_155 rfl mtw (by omega) (by omega) (wp_ladd (q := 157) dX4_meet_156 rfl (by omega) (by omega) (wp_lmul (q := 158) dX4_meet_157 rfl (by omega) (by omega) (wp_al0 (q := 159) dX4_meet_158 rfl (wp_getf (q := 162) dX4_meet_159 rfl f36 m0 m1 rfl (fun z => nomatch z) (wp_al0 (q := 163) dX4_meet_162 rfl (wp_getf (q := 166) dX4_meet_163 rfl f37 m0 m1 rfl (fun z => nomatch z) (wp_lmul (q := 167) dX4_meet_166 rfl (by omega) (by omega) (wp_il4 (q := 169) dX4_meet_167 rfl (wp_s3I (q := 172) dX4_meet_169 rfl q146 (Nat.le_of_ble_eq_true rfl) rfl rfl rfl ((mt_told 0 hpp2.1 hw0).up (by omega)) (wp_lret dX4_meet_172 rfl ?_))))))))))))
                  refine ⟨rJ ?_, ⟨wm, lf, rt, ws, pl, pt, wh, on, tw, wo, wt, il, dr, dn, hM, hwm, hil, hdr, trivial⟩, fun j hj => (hf11 j hj).trans ((hf10 j hj).trans (hf9 j hj))⟩
                  have hWq := hWr (by omega)
                  have hn := fun y => (odR_in (pl := pl) (wi := wi) (sz := sz) hI.hch (q - 1).toNat (by omega) y).1
                  unfold spMeet
                  rw [if_neg (by omega), if_neg (by omega), if_neg (by omega), if_neg (by omega), ← qP.2 (by omega), ← qR.2 (by omega), ← hqe, if_neg (by omega), hWq.at (by omega) (by omega) (by omega) (by omega), hWq.at (by omega) (by omega) (by omega) (by omega)]
                  have hd := fun s t (s0 : fpO sz M ≤ s) (s1 : s < fpO sz M + 2 * hfA sz M) (t0 : fpO sz M ≤ t) (t1 : t < fpO sz M + 2 * hfA sz M) => hI.hdi s t (by omega) (by omega) (by omega) (by omega)
                  show fcA ((gI on x + gI tw x) * (gI on y + gI tw y)) (wo * wt) up = _
                  rw [ex.1, ex.2, ey.1, ey.2, hsd2, hsd3]
                  rcases x4' 0 with ⟨y1, y2, y3, y4⟩ | ⟨y1, y2, y3, y4⟩
                  · exact (fr_meet hn (pts_pos (by omega) (by omega)) hF1 hF2 hd (by omega) y1 y2 y3 y4 bxp byp (by omega) (by omega) (by omega) (by omega)).1
                  · exact (fr_meet hn (pts_pos (by omega) (by omega)) hF1 hF2 hd (by omega) y1 y2 y3 y4 byp bxp (by omega) (by omega) (by omega) (by omega)).2
                · refine wp_lc0 (q := 103) dX4_meet_102 rfl (wp_lc1 (q := 104) dX4_meet_103 rfl (wp_il4 (q := 106) dX4_meet_104 rfl (wp_s3I (q := 109) dX4_meet_106 rfl q146 (Nat.le_of_ble_eq_true rfl) rfl rfl rfl ((mt_told 0 (by decide) (by decide)).up (by omega)) (wp_lret dX4_meet_109 rfl ?_))))
                  refine ⟨rJ ?_, hS, fun _ _ => rfl⟩
                  unfold spMeet
                  rw [if_neg (by omega), if_neg (by omega), if_neg (by omega), if_neg (by omega), ← qP.2 (by omega), ← qR.2 (by omega), ← hqe, if_pos (by omega)]
            · refine wp_lc0 (q := 76) dX4_meet_75 rfl (wp_lc1 (q := 77) dX4_meet_76 rfl (wp_il4 (q := 79) dX4_meet_77 rfl (wp_s3I (q := 82) dX4_meet_79 rfl q146 (Nat.le_of_ble_eq_true rfl) rfl rfl rfl ((mt_told 0 (by decide) (by decide)).up (by omega)) (wp_lret dX4_meet_82 rfl ?_))))
              exact ⟨rJ (by unfold spMeet; rw [if_neg (by omega), if_neg (by omega), if_neg (by omega), if_pos (by omega)]), hS, fun _ _ => rfl⟩
        · refine wp_ldl (-3) (q := 46) dX4_meet_43 rfl l13 (by decide) (by decide) (wp_lret dX4_meet_46 rfl ?_)
          exact ⟨rJ (by unfold spMeet; rw [if_neg (by omega), if_neg (by omega), if_pos (by omega)]), hS, fun _ _ => rfl⟩
      · refine wp_ldl (-2) (q := 37) dX4_meet_34 rfl l12 (by decide) (by decide) (wp_lret dX4_meet_37 rfl ?_)
        exact ⟨rJ (by unfold spMeet; rw [if_neg (by omega), if_pos (by omega)]), hS, fun _ _ => rfl⟩
    · refine wp_ldl (-1) (q := 19) dX4_meet_16 rfl l11 (by decide) (by decide) (wp_lret dX4_meet_19 rfl ?_)
      exact ⟨rJ (by unfold spMeet; rw [if_pos (by omega)]), hS, fun _ _ => rfl⟩
