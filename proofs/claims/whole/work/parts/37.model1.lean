/-! the model: players, chances, places (rows laid by wip/whole) -/
/-- the model's winners: -9 where ours has 8 -/
def WmO (wi wm : List Int) : Prop := ∀ x : Int, 0 ≤ x → x < 7 → gI wm x = tld (rd8 wi x)
/-- the model's state, told as ours -/
def MSx (f : Int → Prop) (h : List mC) (g n sz : Nat) (ch ro pl wi : List Int) : Prop := ∃ (wm lf rt ws rw pt wh on tw : List Int) (wo wt il dr : Int) (dn : List Int), MU h g (n : Int) (sz : Int) ch ro pl wm lf rt ws rw pt wh on tw wo wt il dr dn ∧ WmO wi wm ∧ (il = 0 ∨ il = 1) ∧ (il = 1 → dr = ((rowsO n sz ro).length : Nat) ∧ RwA (rowsO n sz ro) dn) ∧ f il
abbrev MS := MSx (fun _ => True)
theorem MSx.weak {f : Int → Prop} {h : List mC} {g n sz : Nat} {ch ro pl wi : List Int} (hS : MSx f h g n sz ch ro pl wi) : MS h g n sz ch ro pl wi := by
  obtain ⟨wm, lf, rt, ws, rw, pt, wh, on, tw, wo, wt, il, dr, dn, hM, hwm, hil, hdr, hf0⟩ := hS
  exact ⟨wm, lf, rt, ws, rw, pt, wh, on, tw, wo, wt, il, dr, dn, hM, hwm, hil, hdr, trivial⟩
theorem gI_rpl {m : Nat} {v x : Int} (h0 : 0 ≤ x) (h1 : x < m) : gI (List.replicate m v) x = v := by
  unfold gI
  rw [List.getD_eq_getElem?_getD, List.getElem?_replicate, if_pos (by omega)]
  rfl
theorem WmO_new : WmO (List.replicate 8 8) (List.replicate 7 (-9)) := fun x h0 h1 => by
  rw [gI_rpl h0 (by omega)]
  unfold rd8
  rw [if_pos (by omega), gI_rpl h0 (by omega)]
  rfl
theorem sI_rep {l : List Int} {x v w : Int} : sI (sI l x v) x w = sI l x w := by unfold sI; rw [List.set_set]
theorem ms_players (d : Nat) {h : List mC} {g n sz : Nat} {ch ro pl wi : List Int} (hS : MS h g n sz ch ro pl wi) (hn : 2 ≤ n ∧ n ≤ 8) {x : Int} : Ct (d + 3) mX4_players [mR g, mI x] h (fun r9 h9 => r9 = some (mI (spPlayers n x)) ∧ (if x < 2 ∨ 8 < x then MS h9 g n sz ch ro pl wi else MS h9 g x.toNat sz (List.replicate 64 6) (List.replicate 64 1) (List.replicate 8 8) (List.replicate 8 8)) ∧ ∀ j : Nat, (j < g ∨ g + 14 ≤ j) → h9[j]? = h[j]?) := by
  obtain ⟨wm, lf, rt, ws, rw, pt, wh, on, tw, wo, wt, il, dr, dn, hM, hwm, hil, hdr, hf0⟩ := id hS
  obtain ⟨m0, m1, mch, map, mpl, mwm, mlf, mrt, mws, mrw, mpt, mwh, mon, mtw, mdn, lch, lap, lpl, lwm, llf, lrt, lws, lrw, lpt, lwh, lon, ltw, ldn, m8⟩ := id hM
  show Wp _ mX4_players 0 [mR g, mI x, mU] [] h (0, 0) _
  refine wp_il1 (q := 1) dX4_players_0 rfl (wp_i2l (q := 2) dX4_players_1 rfl (wp_ldl (2) (q := 5) dX4_players_2 rfl l7 (by decide) (by decide) (wp_ldl (8) (q := 8) dX4_players_5 rfl l8 (by decide) (by decide) (wp_s3I (q := 11) dX4_players_8 rfl q122 (Nat.le_of_ble_eq_true rfl) rfl rfl rfl ((mt_in 0).up (by omega)) (wp_ifb_ne (t := 17) (q := 14) dX4_players_11 rfl rfl (fun c11 => ?_) (fun c11 => ?_))))))
  · refine wp_al0 (q := 18) dX4_players_17 rfl (wp_getf (q := 21) dX4_players_18 rfl f22 m0 m1 rfl (fun z => nomatch z) (wp_is2 (q := 22) dX4_players_21 rfl rfl (wp_al0 (q := 23) dX4_players_22 rfl (wp_il1 (q := 24) dX4_players_23 rfl (wp_putf (q := 27) dX4_players_24 rfl f22 m0 m1 (Nat.le_of_ble_eq_true rfl) trivial (fun z => absurd z (by decide)) ?_)))))
    have hM := hM.sN (x := x)
    obtain ⟨m0, m1, mch, map, mpl, mwm, mlf, mrt, mws, mrw, mpt, mwh, mon, mtw, mdn, lch, lap, lpl, lwm, llf, lrt, lws, lrw, lpt, lwh, lon, ltw, ldn, m8⟩ := id hM
    refine wp_al0 (q := 28) dX4_players_27 rfl (wp_v0 (q := 31) dX4_players_28 rfl q118 (Nat.le_of_ble_eq_true rfl) rfl m0 m1 rfl rfl (mt_begin d hM) (fun r9 h9 e9 => ?_))
    obtain ⟨rfl, hM9, hf9⟩ := e9
    show Wp _ _ _ _ [] _ _ _
    refine wp_il2 (q := 32) dX4_players_31 rfl (wp_iret dX4_players_32 rfl ?_)
    refine ⟨rI (by unfold spPlayers; rw [if_neg (by omega)]), ?_, fun j hj => by rw [hf9 j hj, fr_set (by omega)]⟩
    rw [if_neg (by omega)]
    rw [show x = ((x.toNat : Nat) : Int) by omega] at hM9
    exact ⟨_, lf, rt, ws, rw, pt, wh, on, tw, wo, wt, 0, dr, dn, hM9, WmO_new, Or.inl rfl, fun z => absurd z (by decide), trivial⟩
  · refine wp_bi (q := 16) dX4_players_14 rfl (by decide) (by decide) (wp_iret dX4_players_16 rfl ?_)
    exact ⟨rI (by unfold spPlayers; rw [if_pos (by omega)]), by rw [if_pos (by omega)]; exact hS, fun _ _ => rfl⟩
theorem ms_chance (d : Nat) {h : List mC} {g n sz : Nat} {ch ro pl wi : List Int} (hS : MS h g n sz ch ro pl wi) (hn : 2 ≤ n ∧ n ≤ 8) {x y v : Int} : Ct (d + 3) mX4_chance [mR g, mI x, mI y, mI v] h (fun r9 h9 => r9 = some (mI (spchance n ch x y v)) ∧ (if (0 ≤ x ∧ x < n) ∧ (0 ≤ y ∧ y < n) ∧ 0 ≤ v ∧ v ≤ 12 ∧ x ≠ y then MS h9 g n sz (sI (sI ch (x * 8 + y) v) (y * 8 + x) (12 - v)) ro pl wi else MS h9 g n sz ch ro pl wi) ∧ ∀ j : Nat, (j < g ∨ g + 14 ≤ j) → h9[j]? = h[j]?) := by
  obtain ⟨wm, lf, rt, ws, rw, pt, wh, on, tw, wo, wt, il, dr, dn, hM, hwm, hil, hdr, hf0⟩ := id hS
  obtain ⟨m0, m1, mch, map, mpl, mwm, mlf, mrt, mws, mrw, mpt, mwh, mon, mtw, mdn, lch, lap, lpl, lwm, llf, lrt, lws, lrw, lpt, lwh, lon, ltw, ldn, m8⟩ := id hM
  have hap := hM
  show Wp _ mX4_chance 0 [mR g, mI x, mI y, mI v, mU] [] h (0, 0) _
  refine wp_al0 (q := 1) dX4_chance_0 rfl (wp_il1 (q := 2) dX4_chance_1 rfl (wp_v1I (q := 5) dX4_chance_2 rfl q124 (Nat.le_of_ble_eq_true rfl) rfl m0 m1 rfl rfl ((mt_isPlayer 0 hM (by omega)).up (by omega)) (wp_ifb_eq (t := 16) (q := 8) dX4_chance_5 rfl rfl (fun c5 => ?_) (fun c5 => ?_))))
  · refine wp_ic (q := 17) dX4_chance_16 rfl (by decide) (by decide) (wp_iret dX4_chance_17 rfl ?_)
    refine ⟨rI ?_, by rw [if_neg (by omega)]; exact hS, fun _ _ => rfl⟩
    unfold spchance
    (repeat' split) <;> omega
  · refine wp_al0 (q := 9) dX4_chance_8 rfl (wp_il2 (q := 10) dX4_chance_9 rfl (wp_v1I (q := 13) dX4_chance_10 rfl q124 (Nat.le_of_ble_eq_true rfl) rfl m0 m1 rfl rfl ((mt_isPlayer 0 hM (by omega)).up (by omega)) (wp_ifb_ne (t := 18) (q := 16) dX4_chance_13 rfl rfl (fun c13 => ?_) (fun c13 => ?_))))
    · refine wp_il3 (q := 19) dX4_chance_18 rfl (wp_i2l (q := 20) dX4_chance_19 rfl (wp_lc0 (q := 21) dX4_chance_20 rfl (wp_ldl (12) (q := 24) dX4_chance_21 rfl l9 (by decide) (by decide) (wp_s3I (q := 27) dX4_chance_24 rfl q122 (Nat.le_of_ble_eq_true rfl) rfl rfl rfl ((mt_in 0).up (by omega)) (wp_ifb_ne (t := 33) (q := 30) dX4_chance_27 rfl rfl (fun c27 => ?_) (fun c27 => ?_))))))
      · refine wp_il1 (q := 34) dX4_chance_33 rfl (wp_il2 (q := 35) dX4_chance_34 rfl (wp_icmp_ne (t := 41) (q := 38) dX4_chance_35 rfl rfl (fun c35 => ?_) (fun c35 => ?_)))
        · refine wp_al0 (q := 42) dX4_chance_41 rfl (wp_getf (q := 45) dX4_chance_42 rfl f24 m0 m1 rfl (fun z => nomatch z) (wp_bi (q := 47) dX4_chance_45 rfl (by decide) (by decide) (wp_il1 (q := 48) dX4_chance_47 rfl (wp_imul (q := 49) dX4_chance_48 rfl (by omega) (by omega) (wp_il2 (q := 50) dX4_chance_49 rfl (wp_iadd (q := 51) dX4_chance_50 rfl (by omega) (by omega) (wp_iaload (q := 52) dX4_chance_51 rfl mch (by omega) (by omega) (wp_is4 (q := 54) dX4_chance_52 rfl rfl (wp_al0 (q := 55) dX4_chance_54 rfl (wp_getf (q := 58) dX4_chance_55 rfl f24 m0 m1 rfl (fun z => nomatch z) (wp_bi (q := 60) dX4_chance_58 rfl (by decide) (by decide) (wp_il1 (q := 61) dX4_chance_60 rfl (wp_imul (q := 62) dX4_chance_61 rfl (by omega) (by omega) ?_)))))))))))))
          refine wp_il2 (q := 63) dX4_chance_62 rfl (wp_iadd (q := 64) dX4_chance_63 rfl (by omega) (by omega) (wp_il3 (q := 65) dX4_chance_64 rfl (wp_iastore (q := 66) dX4_chance_65 rfl (by omega) mch (by omega) (by omega) ?_)))
          have hM := hM.sCh (x := sI ch (8 * x + y) v) ((sI_len _ _ _).trans lch)
          obtain ⟨m0, m1, mch, map, mpl, mwm, mlf, mrt, mws, mrw, mpt, mwh, mon, mtw, mdn, lch, lap, lpl, lwm, llf, lrt, lws, lrw, lpt, lwh, lon, ltw, ldn, m8⟩ := id hM
          refine wp_al0 (q := 67) dX4_chance_66 rfl (wp_getf (q := 70) dX4_chance_67 rfl f24 m0 m1 rfl (fun z => nomatch z) (wp_bi (q := 72) dX4_chance_70 rfl (by decide) (by decide) (wp_il2 (q := 73) dX4_chance_72 rfl (wp_imul (q := 74) dX4_chance_73 rfl (by omega) (by omega) (wp_il1 (q := 75) dX4_chance_74 rfl (wp_iadd (q := 76) dX4_chance_75 rfl (by omega) (by omega) (wp_bi (q := 78) dX4_chance_76 rfl (by decide) (by decide) (wp_il3 (q := 79) dX4_chance_78 rfl (wp_isub (q := 80) dX4_chance_79 rfl (by omega) (by omega) (wp_iastore (q := 81) dX4_chance_80 rfl (by omega) mch (by omega) (by omega) ?_))))))))))
          have hM := hM.sCh (x := sI (sI ch (8 * x + y) v) (8 * y + x) (12 - v)) ((sI_len _ _ _).trans lch)
          obtain ⟨m0, m1, mch, map, mpl, mwm, mlf, mrt, mws, mrw, mpt, mwh, mon, mtw, mdn, lch, lap, lpl, lwm, llf, lrt, lws, lrw, lpt, lwh, lon, ltw, ldn, m8⟩ := id hM
          refine wp_il4 (q := 83) dX4_chance_81 rfl (wp_iret dX4_chance_83 rfl ?_)
          refine ⟨rI ?_, ?_, fun j hj => by rw [fr_set (by omega), fr_set (by omega)]⟩
          · show gI ch (8 * x + y) = _
            unfold spchance chA
            rw [if_neg (by omega), if_neg (by omega), if_neg (by omega), if_pos (by omega), Int.mul_comm x 8]
          · rw [if_pos (by omega), Int.mul_comm x 8, Int.mul_comm y 8]
            exact ⟨wm, lf, rt, ws, rw, pt, wh, on, tw, wo, wt, il, dr, dn, hM, hwm, hil, hdr, trivial⟩
        · refine wp_bi (q := 40) dX4_chance_38 rfl (by decide) (by decide) (wp_iret dX4_chance_40 rfl ?_)
          refine ⟨rI ?_, by rw [if_neg (by omega)]; exact hS, fun _ _ => rfl⟩
          unfold spchance
          (repeat' split) <;> omega
      · refine wp_bi (q := 32) dX4_chance_30 rfl (by decide) (by decide) (wp_iret dX4_chance_32 rfl ?_)
        refine ⟨rI ?_, by rw [if_neg (by omega)]; exact hS, fun _ _ => rfl⟩
        unfold spchance
        (repeat' split) <;> omega
    · refine wp_ic (q := 17) dX4_chance_16 rfl (by decide) (by decide) (wp_iret dX4_chance_17 rfl ?_)
      refine ⟨rI ?_, by rw [if_neg (by omega)]; exact hS, fun _ _ => rfl⟩
      unfold spchance
      (repeat' split) <;> omega
theorem ms_apart (d : Nat) {h : List mC} {g n sz : Nat} {ch ro pl wi : List Int} (hS : MS h g n sz ch ro pl wi) (hn : 2 ≤ n ∧ n ≤ 8) {x y v : Int} : Ct (d + 3) mX4_apart [mR g, mI x, mI y, mI v] h (fun r9 h9 => r9 = some (mI (spapart n ro x y v)) ∧ (if (0 ≤ x ∧ x < n) ∧ (0 ≤ y ∧ y < n) ∧ 1 ≤ v ∧ v ≤ 3 ∧ x ≠ y then MS h9 g n sz ch (sI (sI ro (x * 8 + y) v) (y * 8 + x) v) pl wi else MS h9 g n sz ch ro pl wi) ∧ ∀ j : Nat, (j < g ∨ g + 14 ≤ j) → h9[j]? = h[j]?) := by
  obtain ⟨wm, lf, rt, ws, rw, pt, wh, on, tw, wo, wt, il, dr, dn, hM, hwm, hil, hdr, hf0⟩ := id hS
  obtain ⟨m0, m1, mch, map, mpl, mwm, mlf, mrt, mws, mrw, mpt, mwh, mon, mtw, mdn, lch, lap, lpl, lwm, llf, lrt, lws, lrw, lpt, lwh, lon, ltw, ldn, m8⟩ := id hM
  have hap := hM
  show Wp _ mX4_apart 0 [mR g, mI x, mI y, mI v, mU] [] h (0, 0) _
  refine wp_al0 (q := 1) dX4_apart_0 rfl (wp_il1 (q := 2) dX4_apart_1 rfl (wp_v1I (q := 5) dX4_apart_2 rfl q124 (Nat.le_of_ble_eq_true rfl) rfl m0 m1 rfl rfl ((mt_isPlayer 0 hM (by omega)).up (by omega)) (wp_ifb_eq (t := 16) (q := 8) dX4_apart_5 rfl rfl (fun c5 => ?_) (fun c5 => ?_))))
  · refine wp_ic (q := 17) dX4_apart_16 rfl (by decide) (by decide) (wp_iret dX4_apart_17 rfl ?_)
    refine ⟨rI ?_, by rw [if_neg (by omega)]; exact hS, fun _ _ => rfl⟩
    unfold spapart
    (repeat' split) <;> omega
  · refine wp_al0 (q := 9) dX4_apart_8 rfl (wp_il2 (q := 10) dX4_apart_9 rfl (wp_v1I (q := 13) dX4_apart_10 rfl q124 (Nat.le_of_ble_eq_true rfl) rfl m0 m1 rfl rfl ((mt_isPlayer 0 hM (by omega)).up (by omega)) (wp_ifb_ne (t := 18) (q := 16) dX4_apart_13 rfl rfl (fun c13 => ?_) (fun c13 => ?_))))
    · refine wp_il3 (q := 19) dX4_apart_18 rfl (wp_i2l (q := 20) dX4_apart_19 rfl (wp_lc1 (q := 21) dX4_apart_20 rfl (wp_ldl (3) (q := 24) dX4_apart_21 rfl l10 (by decide) (by decide) (wp_s3I (q := 27) dX4_apart_24 rfl q122 (Nat.le_of_ble_eq_true rfl) rfl rfl rfl ((mt_in 0).up (by omega)) (wp_ifb_ne (t := 33) (q := 30) dX4_apart_27 rfl rfl (fun c27 => ?_) (fun c27 => ?_))))))
      · refine wp_il1 (q := 34) dX4_apart_33 rfl (wp_il2 (q := 35) dX4_apart_34 rfl (wp_icmp_ne (t := 41) (q := 38) dX4_apart_35 rfl rfl (fun c35 => ?_) (fun c35 => ?_)))
        · refine wp_al0 (q := 42) dX4_apart_41 rfl (wp_getf (q := 45) dX4_apart_42 rfl f25 m0 m1 rfl (fun z => nomatch z) (wp_bi (q := 47) dX4_apart_45 rfl (by decide) (by decide) (wp_il1 (q := 48) dX4_apart_47 rfl (wp_imul (q := 49) dX4_apart_48 rfl (by omega) (by omega) (wp_il2 (q := 50) dX4_apart_49 rfl (wp_iadd (q := 51) dX4_apart_50 rfl (by omega) (by omega) (wp_iaload (q := 52) dX4_apart_51 rfl map (by omega) (by omega) (wp_is4 (q := 54) dX4_apart_52 rfl rfl (wp_al0 (q := 55) dX4_apart_54 rfl (wp_getf (q := 58) dX4_apart_55 rfl f25 m0 m1 rfl (fun z => nomatch z) (wp_bi (q := 60) dX4_apart_58 rfl (by decide) (by decide) (wp_il1 (q := 61) dX4_apart_60 rfl (wp_imul (q := 62) dX4_apart_61 rfl (by omega) (by omega) ?_)))))))))))))
          refine wp_il2 (q := 63) dX4_apart_62 rfl (wp_iadd (q := 64) dX4_apart_63 rfl (by omega) (by omega) (wp_il3 (q := 65) dX4_apart_64 rfl (wp_iastore (q := 66) dX4_apart_65 rfl (by omega) map (by omega) (by omega) ?_)))
          have hM := hM.sAp (x := sI ro (8 * x + y) v) ((sI_len _ _ _).trans lap)
          obtain ⟨m0, m1, mch, map, mpl, mwm, mlf, mrt, mws, mrw, mpt, mwh, mon, mtw, mdn, lch, lap, lpl, lwm, llf, lrt, lws, lrw, lpt, lwh, lon, ltw, ldn, m8⟩ := id hM
          refine wp_al0 (q := 67) dX4_apart_66 rfl (wp_getf (q := 70) dX4_apart_67 rfl f25 m0 m1 rfl (fun z => nomatch z) (wp_bi (q := 72) dX4_apart_70 rfl (by decide) (by decide) (wp_il2 (q := 73) dX4_apart_72 rfl (wp_imul (q := 74) dX4_apart_73 rfl (by omega) (by omega) (wp_il1 (q := 75) dX4_apart_74 rfl (wp_iadd (q := 76) dX4_apart_75 rfl (by omega) (by omega) (wp_il3 (q := 77) dX4_apart_76 rfl (wp_iastore (q := 78) dX4_apart_77 rfl (by omega) map (by omega) (by omega) ?_))))))))
          have hM := hM.sAp (x := sI (sI ro (8 * x + y) v) (8 * y + x) (v)) ((sI_len _ _ _).trans lap)
          obtain ⟨m0, m1, mch, map, mpl, mwm, mlf, mrt, mws, mrw, mpt, mwh, mon, mtw, mdn, lch, lap, lpl, lwm, llf, lrt, lws, lrw, lpt, lwh, lon, ltw, ldn, m8⟩ := id hM
          refine wp_al0 (q := 79) dX4_apart_78 rfl (wp_ic (q := 80) dX4_apart_79 rfl (by decide) (by decide) (wp_putf (q := 83) dX4_apart_80 rfl f38 m0 m1 (Nat.le_of_ble_eq_true rfl) (Or.inl rfl) (fun z => absurd z (by decide)) ?_))
          have hM := hM.sIl (x := 0)
          obtain ⟨m0, m1, mch, map, mpl, mwm, mlf, mrt, mws, mrw, mpt, mwh, mon, mtw, mdn, lch, lap, lpl, lwm, llf, lrt, lws, lrw, lpt, lwh, lon, ltw, ldn, m8⟩ := id hM
          refine wp_il4 (q := 85) dX4_apart_83 rfl (wp_iret dX4_apart_85 rfl ?_)
          refine ⟨rI ?_, ?_, fun j hj => by rw [fr_set (by omega), fr_set (by omega), fr_set (by omega)]⟩
          · show gI ro (8 * x + y) = _
            unfold spapart chA
            rw [if_neg (by omega), if_neg (by omega), if_neg (by omega), if_pos (by omega), Int.mul_comm x 8]
          · rw [if_pos (by omega), Int.mul_comm x 8, Int.mul_comm y 8]
            exact ⟨wm, lf, rt, ws, rw, pt, wh, on, tw, wo, wt, 0, dr, dn, hM, hwm, Or.inl rfl, fun z => absurd z (by decide), trivial⟩
        · refine wp_bi (q := 40) dX4_apart_38 rfl (by decide) (by decide) (wp_iret dX4_apart_40 rfl ?_)
          refine ⟨rI ?_, by rw [if_neg (by omega)]; exact hS, fun _ _ => rfl⟩
          unfold spapart
          (repeat' split) <;> omega
      · refine wp_bi (q := 32) dX4_apart_30 rfl (by decide) (by decide) (wp_iret dX4_apart_32 rfl ?_)
        refine ⟨rI ?_, by rw [if_neg (by omega)]; exact hS, fun _ _ => rfl⟩
        unfold spapart
        (repeat' split) <;> omega
    · refine wp_ic (q := 17) dX4_apart_16 rfl (by decide) (by decide) (wp_iret dX4_apart_17 rfl ?_)
      refine ⟨rI ?_, by rw [if_neg (by omega)]; exact hS, fun _ _ => rfl⟩
      unfold spapart
      (repeat' split) <;> omega
theorem ms_cup (d : Nat) {h : List mC} {g n sz : Nat} {ch ro pl wi : List Int} (hS : MS h g n sz ch ro pl wi) {x : Int} : Ct (d + 3) mX4_cup [mR g, mI x] h (fun r9 h9 => r9 = some (mI (spCup sz x)) ∧ (if x = 2 ∨ x = 4 ∨ x = 8 then MS h9 g n x.toNat ch ro (List.replicate 8 8) (List.replicate 8 8) else MS h9 g n sz ch ro pl wi) ∧ ∀ j : Nat, (j < g ∨ g + 14 ≤ j) → h9[j]? = h[j]?) := by
  obtain ⟨wm, lf, rt, ws, rw, pt, wh, on, tw, wo, wt, il, dr, dn, hM, hwm, hil, hdr, hf0⟩ := id hS
  obtain ⟨m0, m1, mch, map, mpl, mwm, mlf, mrt, mws, mrw, mpt, mwh, mon, mtw, mdn, lch, lap, lpl, lwm, llf, lrt, lws, lrw, lpt, lwh, lon, ltw, ldn, m8⟩ := id hM
  show Wp _ mX4_cup 0 [mR g, mI x, mU] [] h (0, 0) _
  refine wp_il1 (q := 1) dX4_cup_0 rfl (wp_ic (q := 2) dX4_cup_1 rfl (by decide) (by decide) (wp_icmp_eq (t := 19) (q := 5) dX4_cup_2 rfl rfl (fun c2 => ?_) (fun c2 => ?_)))
  · refine wp_al0 (q := 20) dX4_cup_19 rfl (wp_getf (q := 23) dX4_cup_20 rfl f23 m0 m1 rfl (fun z => nomatch z) (wp_is2 (q := 24) dX4_cup_23 rfl rfl (wp_al0 (q := 25) dX4_cup_24 rfl (wp_il1 (q := 26) dX4_cup_25 rfl (wp_putf (q := 29) dX4_cup_26 rfl f23 m0 m1 (Nat.le_of_ble_eq_true rfl) trivial (fun z => absurd z (by decide)) ?_)))))
    have hM := hM.sSz (x := x) (by omega)
    obtain ⟨m0, m1, mch, map, mpl, mwm, mlf, mrt, mws, mrw, mpt, mwh, mon, mtw, mdn, lch, lap, lpl, lwm, llf, lrt, lws, lrw, lpt, lwh, lon, ltw, ldn, m8⟩ := id hM
    refine wp_al0 (q := 30) dX4_cup_29 rfl (wp_v0 (q := 33) dX4_cup_30 rfl q119 (Nat.le_of_ble_eq_true rfl) rfl m0 m1 rfl rfl ((mt_sweep 0 hM).up (by omega)) (fun r9 h9 e9 => ?_))
    obtain ⟨rfl, hM9, hf9⟩ := e9
    obtain ⟨m0, m1, mch, map, mpl, mwm, mlf, mrt, mws, mrw, mpt, mwh, mon, mtw, mdn, lch, lap, lpl, lwm, llf, lrt, lws, lrw, lpt, lwh, lon, ltw, ldn, m8⟩ := id hM9
    show Wp _ _ _ _ [] _ _ _
    refine wp_al0 (q := 34) dX4_cup_33 rfl (wp_ic (q := 35) dX4_cup_34 rfl (by decide) (by decide) (wp_putf (q := 38) dX4_cup_35 rfl f38 m0 m1 (Nat.le_of_ble_eq_true rfl) (Or.inl rfl) (fun z => absurd z (by decide)) ?_))
    have hM := hM9.sIl (x := 0)
    refine wp_il2 (q := 39) dX4_cup_38 rfl (wp_iret dX4_cup_39 rfl ?_)
    obtain ⟨z, rfl⟩ := Int.eq_ofNat_of_zero_le (by omega : 0 ≤ x)
    refine ⟨rI (by unfold spCup; rw [if_pos (by omega)]), ?_, fun j hj => by rw [fr_set (by omega), hf9 j hj, fr_set (by omega)]⟩
    rw [if_pos (by omega), Int.toNat_natCast]
    exact ⟨_, lf, rt, ws, rw, pt, wh, on, tw, wo, wt, 0, dr, dn, hM, WmO_new, Or.inl rfl, fun z => absurd z (by decide), trivial⟩
  · refine wp_il1 (q := 6) dX4_cup_5 rfl (wp_ic (q := 7) dX4_cup_6 rfl (by decide) (by decide) (wp_icmp_eq (t := 19) (q := 10) dX4_cup_7 rfl rfl (fun c7 => ?_) (fun c7 => ?_)))
    · refine wp_al0 (q := 20) dX4_cup_19 rfl (wp_getf (q := 23) dX4_cup_20 rfl f23 m0 m1 rfl (fun z => nomatch z) (wp_is2 (q := 24) dX4_cup_23 rfl rfl (wp_al0 (q := 25) dX4_cup_24 rfl (wp_il1 (q := 26) dX4_cup_25 rfl (wp_putf (q := 29) dX4_cup_26 rfl f23 m0 m1 (Nat.le_of_ble_eq_true rfl) trivial (fun z => absurd z (by decide)) ?_)))))
      have hM := hM.sSz (x := x) (by omega)
      obtain ⟨m0, m1, mch, map, mpl, mwm, mlf, mrt, mws, mrw, mpt, mwh, mon, mtw, mdn, lch, lap, lpl, lwm, llf, lrt, lws, lrw, lpt, lwh, lon, ltw, ldn, m8⟩ := id hM
      refine wp_al0 (q := 30) dX4_cup_29 rfl (wp_v0 (q := 33) dX4_cup_30 rfl q119 (Nat.le_of_ble_eq_true rfl) rfl m0 m1 rfl rfl ((mt_sweep 0 hM).up (by omega)) (fun r9 h9 e9 => ?_))
      obtain ⟨rfl, hM9, hf9⟩ := e9
      obtain ⟨m0, m1, mch, map, mpl, mwm, mlf, mrt, mws, mrw, mpt, mwh, mon, mtw, mdn, lch, lap, lpl, lwm, llf, lrt, lws, lrw, lpt, lwh, lon, ltw, ldn, m8⟩ := id hM9
      show Wp _ _ _ _ [] _ _ _
      refine wp_al0 (q := 34) dX4_cup_33 rfl (wp_ic (q := 35) dX4_cup_34 rfl (by decide) (by decide) (wp_putf (q := 38) dX4_cup_35 rfl f38 m0 m1 (Nat.le_of_ble_eq_true rfl) (Or.inl rfl) (fun z => absurd z (by decide)) ?_))
      have hM := hM9.sIl (x := 0)
      refine wp_il2 (q := 39) dX4_cup_38 rfl (wp_iret dX4_cup_39 rfl ?_)
      obtain ⟨z, rfl⟩ := Int.eq_ofNat_of_zero_le (by omega : 0 ≤ x)
      refine ⟨rI (by unfold spCup; rw [if_pos (by omega)]), ?_, fun j hj => by rw [fr_set (by omega), hf9 j hj, fr_set (by omega)]⟩
      rw [if_pos (by omega), Int.toNat_natCast]
      exact ⟨_, lf, rt, ws, rw, pt, wh, on, tw, wo, wt, 0, dr, dn, hM, WmO_new, Or.inl rfl, fun z => absurd z (by decide), trivial⟩
    · refine wp_il1 (q := 11) dX4_cup_10 rfl (wp_bi (q := 13) dX4_cup_11 rfl (by decide) (by decide) (wp_icmp_eq (t := 19) (q := 16) dX4_cup_13 rfl rfl (fun c13 => ?_) (fun c13 => ?_)))
      · refine wp_al0 (q := 20) dX4_cup_19 rfl (wp_getf (q := 23) dX4_cup_20 rfl f23 m0 m1 rfl (fun z => nomatch z) (wp_is2 (q := 24) dX4_cup_23 rfl rfl (wp_al0 (q := 25) dX4_cup_24 rfl (wp_il1 (q := 26) dX4_cup_25 rfl (wp_putf (q := 29) dX4_cup_26 rfl f23 m0 m1 (Nat.le_of_ble_eq_true rfl) trivial (fun z => absurd z (by decide)) ?_)))))
        have hM := hM.sSz (x := x) (by omega)
        obtain ⟨m0, m1, mch, map, mpl, mwm, mlf, mrt, mws, mrw, mpt, mwh, mon, mtw, mdn, lch, lap, lpl, lwm, llf, lrt, lws, lrw, lpt, lwh, lon, ltw, ldn, m8⟩ := id hM
        refine wp_al0 (q := 30) dX4_cup_29 rfl (wp_v0 (q := 33) dX4_cup_30 rfl q119 (Nat.le_of_ble_eq_true rfl) rfl m0 m1 rfl rfl ((mt_sweep 0 hM).up (by omega)) (fun r9 h9 e9 => ?_))
        obtain ⟨rfl, hM9, hf9⟩ := e9
        obtain ⟨m0, m1, mch, map, mpl, mwm, mlf, mrt, mws, mrw, mpt, mwh, mon, mtw, mdn, lch, lap, lpl, lwm, llf, lrt, lws, lrw, lpt, lwh, lon, ltw, ldn, m8⟩ := id hM9
        show Wp _ _ _ _ [] _ _ _
        refine wp_al0 (q := 34) dX4_cup_33 rfl (wp_ic (q := 35) dX4_cup_34 rfl (by decide) (by decide) (wp_putf (q := 38) dX4_cup_35 rfl f38 m0 m1 (Nat.le_of_ble_eq_true rfl) (Or.inl rfl) (fun z => absurd z (by decide)) ?_))
        have hM := hM9.sIl (x := 0)
        refine wp_il2 (q := 39) dX4_cup_38 rfl (wp_iret dX4_cup_39 rfl ?_)
        obtain ⟨z, rfl⟩ := Int.eq_ofNat_of_zero_le (by omega : 0 ≤ x)
        refine ⟨rI (by unfold spCup; rw [if_pos (by omega)]), ?_, fun j hj => by rw [fr_set (by omega), hf9 j hj, fr_set (by omega)]⟩
        rw [if_pos (by omega), Int.toNat_natCast]
        exact ⟨_, lf, rt, ws, rw, pt, wh, on, tw, wo, wt, 0, dr, dn, hM, WmO_new, Or.inl rfl, fun z => absurd z (by decide), trivial⟩
      · refine wp_bi (q := 18) dX4_cup_16 rfl (by decide) (by decide) (wp_iret dX4_cup_18 rfl ?_)
        exact ⟨rI (by unfold spCup; rw [if_neg (by omega)]), by rw [if_neg (by omega)]; exact hS, fun _ _ => rfl⟩
theorem pcM_pl {pl : List Int} {sz : Nat} (h8 : sz ≤ 8) {v : Int} (hv : v ≠ 8) : (pcM pl sz v = -9 ↔ plO pl sz v = -1) ∧ (pcM pl sz v ≠ -9 → pcM pl sz v = plO pl sz v) := by
  unfold pcM plO
  rw [if_neg hv]
  have e : fndF (rd8 pl) v (sz : Int).toNat (sz : Int).toNat = fndF (gI pl) v (sz : Int).toNat (sz : Int).toNat := fndF_congr (fun j hj => by unfold rd8; rw [if_pos (by omega)]) _ (Nat.le_refl _)
  rw [e]
  have := fndF_in (f := gI pl) (v := v) (n := (sz : Int).toNat) _ (Nat.le_refl _)
  split <;> omega
theorem ms_put (d : Nat) {h : List mC} {g n sz : Nat} {ch ro pl wi : List Int} (hS : MS h g n sz ch ro pl wi) (hn : 2 ≤ n ∧ n ≤ 8) {x v : Int} : Ct (d + 3) mX4_put [mR g, mI x, mI v] h (fun r9 h9 => r9 = some (mI (spPut n sz pl x v)) ∧ (if (0 ≤ x ∧ x < sz) ∧ (v = -9 ∨ (0 ≤ v ∧ v < n)) ∧ (plO pl sz (inn v) = -1 ∨ plO pl sz (inn v) = x) then MS h9 g n sz ch ro (sI pl x (inn v)) (List.replicate 8 8) else MS h9 g n sz ch ro pl wi) ∧ ∀ j : Nat, (j < g ∨ g + 14 ≤ j) → h9[j]? = h[j]?) := by
  obtain ⟨wm, lf, rt, ws, rw, pt, wh, on, tw, wo, wt, il, dr, dn, hM, hwm, hil, hdr, hf0⟩ := id hS
  obtain ⟨m0, m1, mch, map, mpl, mwm, mlf, mrt, mws, mrw, mpt, mwh, mon, mtw, mdn, lch, lap, lpl, lwm, llf, lrt, lws, lrw, lpt, lwh, lon, ltw, ldn, m8⟩ := id hM
  have q1 : 0 ≤ v → v < n → ((pcM pl sz v = -9 ↔ plO pl sz v = -1) ∧ (pcM pl sz v ≠ -9 → pcM pl sz v = plO pl sz v)) := fun a b => pcM_pl (by omega) (by omega)
  have q2 : plO pl sz 8 = -1 := by unfold plO; rw [if_pos rfl]
  have q3 : 0 ≤ v → v < n → inn v = v := fun a b => by unfold inn; rw [if_neg (by omega)]
  have q4 : v = -9 → inn v = 8 := fun a => by unfold inn; rw [if_pos a]
  have q5 : v = -9 → plO pl sz (inn v) = -1 := fun a => by rw [q4 a]; exact q2
  have q6 : 0 ≤ v → v < n → plO pl sz (inn v) = plO pl sz v := fun a b => by rw [q3 a b]
  show Wp _ mX4_put 0 [mR g, mI x, mI v, mU] [] h (0, 0) _
  refine wp_al0 (q := 1) dX4_put_0 rfl (wp_il1 (q := 2) dX4_put_1 rfl (wp_v1I (q := 5) dX4_put_2 rfl q128 (Nat.le_of_ble_eq_true rfl) rfl m0 m1 rfl rfl ((mt_isPlace 0 hM).up (by omega)) (wp_ifb_eq (t := 22) (q := 8) dX4_put_5 rfl rfl (fun c5 => ?_) (fun c5 => ?_))))
  · refine wp_ic (q := 23) dX4_put_22 rfl (by decide) (by decide) (wp_iret dX4_put_23 rfl ?_)
    refine ⟨rI ?_, by rw [if_neg (by omega)]; exact hS, fun _ _ => rfl⟩
    unfold spPut
    (repeat' split) <;> omega
  · refine wp_il2 (q := 9) dX4_put_8 rfl (wp_bi (q := 11) dX4_put_9 rfl (by decide) (by decide) (wp_icmp_eq (t := 24) (q := 14) dX4_put_11 rfl rfl (fun c11 => ?_) (fun c11 => ?_)))
    · refine wp_il2 (q := 25) dX4_put_24 rfl (wp_bi (q := 27) dX4_put_25 rfl (by decide) (by decide) (wp_icmp_eq (t := 52) (q := 30) dX4_put_27 rfl rfl (fun c27 => ?_) (fun c27 => ?_)))
      · refine wp_al0 (q := 53) dX4_put_52 rfl (wp_getf (q := 56) dX4_put_53 rfl f26 m0 m1 rfl (fun z => nomatch z) (wp_il1 (q := 57) dX4_put_56 rfl (wp_iaload (q := 58) dX4_put_57 rfl mpl (by omega) (by omega) (wp_is3 (q := 59) dX4_put_58 rfl rfl (wp_al0 (q := 60) dX4_put_59 rfl (wp_getf (q := 63) dX4_put_60 rfl f26 m0 m1 rfl (fun z => nomatch z) (wp_il1 (q := 64) dX4_put_63 rfl (wp_il2 (q := 65) dX4_put_64 rfl (wp_bi (q := 67) dX4_put_65 rfl (by decide) (by decide) (wp_icmp_ne (t := 75) (q := 70) dX4_put_67 rfl rfl (fun c67 => ?_) (fun c67 => ?_)))))))))))
        · refine wp_il2 (q := 76) dX4_put_75 rfl ?_
          first
            | (rw [show (mI 8 : mV) = mI (inn v) by unfold inn; rw [if_pos c67]])
            | (rw [show mI v = mI (inn v) by unfold inn; rw [if_neg c67]])
          refine wp_iastore (q := 77) dX4_put_76 rfl (by omega) mpl (by omega) (by omega) ?_
          have hin : inn v = 8 ∨ inn v = v := by unfold inn; split <;> omega
          have hM := hM.sPl (x := sI pl x (inn v)) ((sI_len _ _ _).trans lpl)
          obtain ⟨m0, m1, mch, map, mpl, mwm, mlf, mrt, mws, mrw, mpt, mwh, mon, mtw, mdn, lch, lap, lpl, lwm, llf, lrt, lws, lrw, lpt, lwh, lon, ltw, ldn, m8⟩ := id hM
          refine wp_al0 (q := 78) dX4_put_77 rfl (wp_v0 (q := 81) dX4_put_78 rfl q120 (Nat.le_of_ble_eq_true rfl) rfl m0 m1 rfl rfl ((mt_undecide 0 hM).up (by omega)) (fun r9 h9 e9 => ?_))
          obtain ⟨rfl, hM9, hf9⟩ := e9
          show Wp _ _ _ _ [] _ _ _
          refine wp_il3 (q := 82) dX4_put_81 rfl (wp_bi (q := 84) dX4_put_82 rfl (by decide) (by decide) (wp_icmp_ne (t := 92) (q := 87) dX4_put_84 rfl rfl (fun c84 => ?_) (fun c84 => ?_)))
          · refine wp_il3 (q := 93) dX4_put_92 rfl (wp_iret dX4_put_93 rfl ?_)
            refine ⟨rI ?_, ?_, fun j hj => by rw [hf9 j hj, fr_set (by omega)]⟩
            · unfold spPut
              rw [if_neg (by omega), if_neg (by omega), show rd8 pl x = gI pl x by unfold rd8; rw [if_pos (by omega)]]
              unfold tld
              first
                | exact (if_pos c84).symm
                | exact (if_neg c84).symm
            · rw [if_pos (by omega)]
              exact ⟨_, lf, rt, ws, rw, pt, wh, on, tw, wo, wt, il, dr, dn, hM9, WmO_new, hil, hdr, trivial⟩
          · refine wp_bi (q := 89) dX4_put_87 rfl (by decide) (by decide) (wp_goto (q := 93) dX4_put_89 rfl (wp_iret dX4_put_93 rfl ?_))
            refine ⟨rI ?_, ?_, fun j hj => by rw [hf9 j hj, fr_set (by omega)]⟩
            · unfold spPut
              rw [if_neg (by omega), if_neg (by omega), show rd8 pl x = gI pl x by unfold rd8; rw [if_pos (by omega)]]
              unfold tld
              first
                | exact (if_pos c84).symm
                | exact (if_neg c84).symm
            · rw [if_pos (by omega)]
              exact ⟨_, lf, rt, ws, rw, pt, wh, on, tw, wo, wt, il, dr, dn, hM9, WmO_new, hil, hdr, trivial⟩
        · refine wp_bi (q := 72) dX4_put_70 rfl (by decide) (by decide) (wp_goto (q := 76) dX4_put_72 rfl ?_)
          first
            | (rw [show (mI 8 : mV) = mI (inn v) by unfold inn; rw [if_pos c67]])
            | (rw [show mI v = mI (inn v) by unfold inn; rw [if_neg c67]])
          refine wp_iastore (q := 77) dX4_put_76 rfl (by omega) mpl (by omega) (by omega) ?_
          have hin : inn v = 8 ∨ inn v = v := by unfold inn; split <;> omega
          have hM := hM.sPl (x := sI pl x (inn v)) ((sI_len _ _ _).trans lpl)
          obtain ⟨m0, m1, mch, map, mpl, mwm, mlf, mrt, mws, mrw, mpt, mwh, mon, mtw, mdn, lch, lap, lpl, lwm, llf, lrt, lws, lrw, lpt, lwh, lon, ltw, ldn, m8⟩ := id hM
          refine wp_al0 (q := 78) dX4_put_77 rfl (wp_v0 (q := 81) dX4_put_78 rfl q120 (Nat.le_of_ble_eq_true rfl) rfl m0 m1 rfl rfl ((mt_undecide 0 hM).up (by omega)) (fun r9 h9 e9 => ?_))
          obtain ⟨rfl, hM9, hf9⟩ := e9
          show Wp _ _ _ _ [] _ _ _
          refine wp_il3 (q := 82) dX4_put_81 rfl (wp_bi (q := 84) dX4_put_82 rfl (by decide) (by decide) (wp_icmp_ne (t := 92) (q := 87) dX4_put_84 rfl rfl (fun c84 => ?_) (fun c84 => ?_)))
          · refine wp_il3 (q := 93) dX4_put_92 rfl (wp_iret dX4_put_93 rfl ?_)
            refine ⟨rI ?_, ?_, fun j hj => by rw [hf9 j hj, fr_set (by omega)]⟩
            · unfold spPut
              rw [if_neg (by omega), if_neg (by omega), show rd8 pl x = gI pl x by unfold rd8; rw [if_pos (by omega)]]
              unfold tld
              first
                | exact (if_pos c84).symm
                | exact (if_neg c84).symm
            · rw [if_pos (by omega)]
              exact ⟨_, lf, rt, ws, rw, pt, wh, on, tw, wo, wt, il, dr, dn, hM9, WmO_new, hil, hdr, trivial⟩
          · refine wp_bi (q := 89) dX4_put_87 rfl (by decide) (by decide) (wp_goto (q := 93) dX4_put_89 rfl (wp_iret dX4_put_93 rfl ?_))
            refine ⟨rI ?_, ?_, fun j hj => by rw [hf9 j hj, fr_set (by omega)]⟩
            · unfold spPut
              rw [if_neg (by omega), if_neg (by omega), show rd8 pl x = gI pl x by unfold rd8; rw [if_pos (by omega)]]
              unfold tld
              first
                | exact (if_pos c84).symm
                | exact (if_neg c84).symm
            · rw [if_pos (by omega)]
              exact ⟨_, lf, rt, ws, rw, pt, wh, on, tw, wo, wt, il, dr, dn, hM9, WmO_new, hil, hdr, trivial⟩
      · refine wp_al0 (q := 31) dX4_put_30 rfl (wp_il2 (q := 32) dX4_put_31 rfl (wp_v1I (q := 35) dX4_put_32 rfl q129 (Nat.le_of_ble_eq_true rfl) rfl m0 m1 rfl rfl ((mt_placeOf 0 hM).up (by omega)) (wp_bi (q := 37) dX4_put_35 rfl (by decide) (by decide) (wp_icmp_eq (t := 52) (q := 40) dX4_put_37 rfl rfl (fun c37 => ?_) (fun c37 => ?_)))))
        · refine wp_al0 (q := 53) dX4_put_52 rfl (wp_getf (q := 56) dX4_put_53 rfl f26 m0 m1 rfl (fun z => nomatch z) (wp_il1 (q := 57) dX4_put_56 rfl (wp_iaload (q := 58) dX4_put_57 rfl mpl (by omega) (by omega) (wp_is3 (q := 59) dX4_put_58 rfl rfl (wp_al0 (q := 60) dX4_put_59 rfl (wp_getf (q := 63) dX4_put_60 rfl f26 m0 m1 rfl (fun z => nomatch z) (wp_il1 (q := 64) dX4_put_63 rfl (wp_il2 (q := 65) dX4_put_64 rfl (wp_bi (q := 67) dX4_put_65 rfl (by decide) (by decide) (wp_icmp_ne (t := 75) (q := 70) dX4_put_67 rfl rfl (fun c67 => ?_) (fun c67 => ?_)))))))))))
          · refine wp_il2 (q := 76) dX4_put_75 rfl ?_
            first
              | (rw [show (mI 8 : mV) = mI (inn v) by unfold inn; rw [if_pos c67]])
              | (rw [show mI v = mI (inn v) by unfold inn; rw [if_neg c67]])
            refine wp_iastore (q := 77) dX4_put_76 rfl (by omega) mpl (by omega) (by omega) ?_
            have hin : inn v = 8 ∨ inn v = v := by unfold inn; split <;> omega
            have hM := hM.sPl (x := sI pl x (inn v)) ((sI_len _ _ _).trans lpl)
            obtain ⟨m0, m1, mch, map, mpl, mwm, mlf, mrt, mws, mrw, mpt, mwh, mon, mtw, mdn, lch, lap, lpl, lwm, llf, lrt, lws, lrw, lpt, lwh, lon, ltw, ldn, m8⟩ := id hM
            refine wp_al0 (q := 78) dX4_put_77 rfl (wp_v0 (q := 81) dX4_put_78 rfl q120 (Nat.le_of_ble_eq_true rfl) rfl m0 m1 rfl rfl ((mt_undecide 0 hM).up (by omega)) (fun r9 h9 e9 => ?_))
            obtain ⟨rfl, hM9, hf9⟩ := e9
            show Wp _ _ _ _ [] _ _ _
            refine wp_il3 (q := 82) dX4_put_81 rfl (wp_bi (q := 84) dX4_put_82 rfl (by decide) (by decide) (wp_icmp_ne (t := 92) (q := 87) dX4_put_84 rfl rfl (fun c84 => ?_) (fun c84 => ?_)))
            · refine wp_il3 (q := 93) dX4_put_92 rfl (wp_iret dX4_put_93 rfl ?_)
              refine ⟨rI ?_, ?_, fun j hj => by rw [hf9 j hj, fr_set (by omega)]⟩
              · unfold spPut
                rw [if_neg (by omega), if_neg (by omega), show rd8 pl x = gI pl x by unfold rd8; rw [if_pos (by omega)]]
                unfold tld
                first
                  | exact (if_pos c84).symm
                  | exact (if_neg c84).symm
              · rw [if_pos (by omega)]
                exact ⟨_, lf, rt, ws, rw, pt, wh, on, tw, wo, wt, il, dr, dn, hM9, WmO_new, hil, hdr, trivial⟩
            · refine wp_bi (q := 89) dX4_put_87 rfl (by decide) (by decide) (wp_goto (q := 93) dX4_put_89 rfl (wp_iret dX4_put_93 rfl ?_))
              refine ⟨rI ?_, ?_, fun j hj => by rw [hf9 j hj, fr_set (by omega)]⟩
              · unfold spPut
                rw [if_neg (by omega), if_neg (by omega), show rd8 pl x = gI pl x by unfold rd8; rw [if_pos (by omega)]]
                unfold tld
                first
                  | exact (if_pos c84).symm
                  | exact (if_neg c84).symm
              · rw [if_pos (by omega)]
                exact ⟨_, lf, rt, ws, rw, pt, wh, on, tw, wo, wt, il, dr, dn, hM9, WmO_new, hil, hdr, trivial⟩
          · refine wp_bi (q := 72) dX4_put_70 rfl (by decide) (by decide) (wp_goto (q := 76) dX4_put_72 rfl ?_)
            first
              | (rw [show (mI 8 : mV) = mI (inn v) by unfold inn; rw [if_pos c67]])
              | (rw [show mI v = mI (inn v) by unfold inn; rw [if_neg c67]])
            refine wp_iastore (q := 77) dX4_put_76 rfl (by omega) mpl (by omega) (by omega) ?_
            have hin : inn v = 8 ∨ inn v = v := by unfold inn; split <;> omega
            have hM := hM.sPl (x := sI pl x (inn v)) ((sI_len _ _ _).trans lpl)
            obtain ⟨m0, m1, mch, map, mpl, mwm, mlf, mrt, mws, mrw, mpt, mwh, mon, mtw, mdn, lch, lap, lpl, lwm, llf, lrt, lws, lrw, lpt, lwh, lon, ltw, ldn, m8⟩ := id hM
            refine wp_al0 (q := 78) dX4_put_77 rfl (wp_v0 (q := 81) dX4_put_78 rfl q120 (Nat.le_of_ble_eq_true rfl) rfl m0 m1 rfl rfl ((mt_undecide 0 hM).up (by omega)) (fun r9 h9 e9 => ?_))
            obtain ⟨rfl, hM9, hf9⟩ := e9
            show Wp _ _ _ _ [] _ _ _
            refine wp_il3 (q := 82) dX4_put_81 rfl (wp_bi (q := 84) dX4_put_82 rfl (by decide) (by decide) (wp_icmp_ne (t := 92) (q := 87) dX4_put_84 rfl rfl (fun c84 => ?_) (fun c84 => ?_)))
            · refine wp_il3 (q := 93) dX4_put_92 rfl (wp_iret dX4_put_93 rfl ?_)
              refine ⟨rI ?_, ?_, fun j hj => by rw [hf9 j hj, fr_set (by omega)]⟩
              · unfold spPut
                rw [if_neg (by omega), if_neg (by omega), show rd8 pl x = gI pl x by unfold rd8; rw [if_pos (by omega)]]
                unfold tld
                first
                  | exact (if_pos c84).symm
                  | exact (if_neg c84).symm
              · rw [if_pos (by omega)]
                exact ⟨_, lf, rt, ws, rw, pt, wh, on, tw, wo, wt, il, dr, dn, hM9, WmO_new, hil, hdr, trivial⟩
            · refine wp_bi (q := 89) dX4_put_87 rfl (by decide) (by decide) (wp_goto (q := 93) dX4_put_89 rfl (wp_iret dX4_put_93 rfl ?_))
              refine ⟨rI ?_, ?_, fun j hj => by rw [hf9 j hj, fr_set (by omega)]⟩
              · unfold spPut
                rw [if_neg (by omega), if_neg (by omega), show rd8 pl x = gI pl x by unfold rd8; rw [if_pos (by omega)]]
                unfold tld
                first
                  | exact (if_pos c84).symm
                  | exact (if_neg c84).symm
              · rw [if_pos (by omega)]
                exact ⟨_, lf, rt, ws, rw, pt, wh, on, tw, wo, wt, il, dr, dn, hM9, WmO_new, hil, hdr, trivial⟩
        · refine wp_al0 (q := 41) dX4_put_40 rfl (wp_il2 (q := 42) dX4_put_41 rfl (wp_v1I (q := 45) dX4_put_42 rfl q129 (Nat.le_of_ble_eq_true rfl) rfl m0 m1 rfl rfl ((mt_placeOf 0 hM).up (by omega)) (wp_il1 (q := 46) dX4_put_45 rfl (wp_icmp_eq (t := 52) (q := 49) dX4_put_46 rfl rfl (fun c46 => ?_) (fun c46 => ?_)))))
          · refine wp_al0 (q := 53) dX4_put_52 rfl (wp_getf (q := 56) dX4_put_53 rfl f26 m0 m1 rfl (fun z => nomatch z) (wp_il1 (q := 57) dX4_put_56 rfl (wp_iaload (q := 58) dX4_put_57 rfl mpl (by omega) (by omega) (wp_is3 (q := 59) dX4_put_58 rfl rfl (wp_al0 (q := 60) dX4_put_59 rfl (wp_getf (q := 63) dX4_put_60 rfl f26 m0 m1 rfl (fun z => nomatch z) (wp_il1 (q := 64) dX4_put_63 rfl (wp_il2 (q := 65) dX4_put_64 rfl (wp_bi (q := 67) dX4_put_65 rfl (by decide) (by decide) (wp_icmp_ne (t := 75) (q := 70) dX4_put_67 rfl rfl (fun c67 => ?_) (fun c67 => ?_)))))))))))
            · refine wp_il2 (q := 76) dX4_put_75 rfl ?_
              first
                | (rw [show (mI 8 : mV) = mI (inn v) by unfold inn; rw [if_pos c67]])
                | (rw [show mI v = mI (inn v) by unfold inn; rw [if_neg c67]])
              refine wp_iastore (q := 77) dX4_put_76 rfl (by omega) mpl (by omega) (by omega) ?_
              have hin : inn v = 8 ∨ inn v = v := by unfold inn; split <;> omega
              have hM := hM.sPl (x := sI pl x (inn v)) ((sI_len _ _ _).trans lpl)
              obtain ⟨m0, m1, mch, map, mpl, mwm, mlf, mrt, mws, mrw, mpt, mwh, mon, mtw, mdn, lch, lap, lpl, lwm, llf, lrt, lws, lrw, lpt, lwh, lon, ltw, ldn, m8⟩ := id hM
              refine wp_al0 (q := 78) dX4_put_77 rfl (wp_v0 (q := 81) dX4_put_78 rfl q120 (Nat.le_of_ble_eq_true rfl) rfl m0 m1 rfl rfl ((mt_undecide 0 hM).up (by omega)) (fun r9 h9 e9 => ?_))
              obtain ⟨rfl, hM9, hf9⟩ := e9
              show Wp _ _ _ _ [] _ _ _
              refine wp_il3 (q := 82) dX4_put_81 rfl (wp_bi (q := 84) dX4_put_82 rfl (by decide) (by decide) (wp_icmp_ne (t := 92) (q := 87) dX4_put_84 rfl rfl (fun c84 => ?_) (fun c84 => ?_)))
              · refine wp_il3 (q := 93) dX4_put_92 rfl (wp_iret dX4_put_93 rfl ?_)
                refine ⟨rI ?_, ?_, fun j hj => by rw [hf9 j hj, fr_set (by omega)]⟩
                · unfold spPut
                  rw [if_neg (by omega), if_neg (by omega), show rd8 pl x = gI pl x by unfold rd8; rw [if_pos (by omega)]]
                  unfold tld
                  first
                    | exact (if_pos c84).symm
                    | exact (if_neg c84).symm
                · rw [if_pos (by omega)]
                  exact ⟨_, lf, rt, ws, rw, pt, wh, on, tw, wo, wt, il, dr, dn, hM9, WmO_new, hil, hdr, trivial⟩
              · refine wp_bi (q := 89) dX4_put_87 rfl (by decide) (by decide) (wp_goto (q := 93) dX4_put_89 rfl (wp_iret dX4_put_93 rfl ?_))
                refine ⟨rI ?_, ?_, fun j hj => by rw [hf9 j hj, fr_set (by omega)]⟩
                · unfold spPut
                  rw [if_neg (by omega), if_neg (by omega), show rd8 pl x = gI pl x by unfold rd8; rw [if_pos (by omega)]]
                  unfold tld
                  first
                    | exact (if_pos c84).symm
                    | exact (if_neg c84).symm
                · rw [if_pos (by omega)]
                  exact ⟨_, lf, rt, ws, rw, pt, wh, on, tw, wo, wt, il, dr, dn, hM9, WmO_new, hil, hdr, trivial⟩
            · refine wp_bi (q := 72) dX4_put_70 rfl (by decide) (by decide) (wp_goto (q := 76) dX4_put_72 rfl ?_)
              first
                | (rw [show (mI 8 : mV) = mI (inn v) by unfold inn; rw [if_pos c67]])
                | (rw [show mI v = mI (inn v) by unfold inn; rw [if_neg c67]])
              refine wp_iastore (q := 77) dX4_put_76 rfl (by omega) mpl (by omega) (by omega) ?_
              have hin : inn v = 8 ∨ inn v = v := by unfold inn; split <;> omega
              have hM := hM.sPl (x := sI pl x (inn v)) ((sI_len _ _ _).trans lpl)
              obtain ⟨m0, m1, mch, map, mpl, mwm, mlf, mrt, mws, mrw, mpt, mwh, mon, mtw, mdn, lch, lap, lpl, lwm, llf, lrt, lws, lrw, lpt, lwh, lon, ltw, ldn, m8⟩ := id hM
              refine wp_al0 (q := 78) dX4_put_77 rfl (wp_v0 (q := 81) dX4_put_78 rfl q120 (Nat.le_of_ble_eq_true rfl) rfl m0 m1 rfl rfl ((mt_undecide 0 hM).up (by omega)) (fun r9 h9 e9 => ?_))
              obtain ⟨rfl, hM9, hf9⟩ := e9
              show Wp _ _ _ _ [] _ _ _
              refine wp_il3 (q := 82) dX4_put_81 rfl (wp_bi (q := 84) dX4_put_82 rfl (by decide) (by decide) (wp_icmp_ne (t := 92) (q := 87) dX4_put_84 rfl rfl (fun c84 => ?_) (fun c84 => ?_)))
              · refine wp_il3 (q := 93) dX4_put_92 rfl (wp_iret dX4_put_93 rfl ?_)
                refine ⟨rI ?_, ?_, fun j hj => by rw [hf9 j hj, fr_set (by omega)]⟩
                · unfold spPut
                  rw [if_neg (by omega), if_neg (by omega), show rd8 pl x = gI pl x by unfold rd8; rw [if_pos (by omega)]]
                  unfold tld
                  first
                    | exact (if_pos c84).symm
                    | exact (if_neg c84).symm
                · rw [if_pos (by omega)]
                  exact ⟨_, lf, rt, ws, rw, pt, wh, on, tw, wo, wt, il, dr, dn, hM9, WmO_new, hil, hdr, trivial⟩
              · refine wp_bi (q := 89) dX4_put_87 rfl (by decide) (by decide) (wp_goto (q := 93) dX4_put_89 rfl (wp_iret dX4_put_93 rfl ?_))
                refine ⟨rI ?_, ?_, fun j hj => by rw [hf9 j hj, fr_set (by omega)]⟩
                · unfold spPut
                  rw [if_neg (by omega), if_neg (by omega), show rd8 pl x = gI pl x by unfold rd8; rw [if_pos (by omega)]]
                  unfold tld
                  first
                    | exact (if_pos c84).symm
                    | exact (if_neg c84).symm
                · rw [if_pos (by omega)]
                  exact ⟨_, lf, rt, ws, rw, pt, wh, on, tw, wo, wt, il, dr, dn, hM9, WmO_new, hil, hdr, trivial⟩
          · refine wp_bi (q := 51) dX4_put_49 rfl (by decide) (by decide) (wp_iret dX4_put_51 rfl ?_)
            refine ⟨rI ?_, by rw [if_neg (by omega)]; exact hS, fun _ _ => rfl⟩
            unfold spPut
            (repeat' split) <;> omega
    · refine wp_al0 (q := 15) dX4_put_14 rfl (wp_il2 (q := 16) dX4_put_15 rfl (wp_v1I (q := 19) dX4_put_16 rfl q124 (Nat.le_of_ble_eq_true rfl) rfl m0 m1 rfl rfl ((mt_isPlayer 0 hM (by omega)).up (by omega)) (wp_ifb_ne (t := 24) (q := 22) dX4_put_19 rfl rfl (fun c19 => ?_) (fun c19 => ?_))))
      · refine wp_il2 (q := 25) dX4_put_24 rfl (wp_bi (q := 27) dX4_put_25 rfl (by decide) (by decide) (wp_icmp_eq (t := 52) (q := 30) dX4_put_27 rfl rfl (fun c27 => ?_) (fun c27 => ?_)))
        · refine wp_al0 (q := 53) dX4_put_52 rfl (wp_getf (q := 56) dX4_put_53 rfl f26 m0 m1 rfl (fun z => nomatch z) (wp_il1 (q := 57) dX4_put_56 rfl (wp_iaload (q := 58) dX4_put_57 rfl mpl (by omega) (by omega) (wp_is3 (q := 59) dX4_put_58 rfl rfl (wp_al0 (q := 60) dX4_put_59 rfl (wp_getf (q := 63) dX4_put_60 rfl f26 m0 m1 rfl (fun z => nomatch z) (wp_il1 (q := 64) dX4_put_63 rfl (wp_il2 (q := 65) dX4_put_64 rfl (wp_bi (q := 67) dX4_put_65 rfl (by decide) (by decide) (wp_icmp_ne (t := 75) (q := 70) dX4_put_67 rfl rfl (fun c67 => ?_) (fun c67 => ?_)))))))))))
          · refine wp_il2 (q := 76) dX4_put_75 rfl ?_
            first
              | (rw [show (mI 8 : mV) = mI (inn v) by unfold inn; rw [if_pos c67]])
              | (rw [show mI v = mI (inn v) by unfold inn; rw [if_neg c67]])
            refine wp_iastore (q := 77) dX4_put_76 rfl (by omega) mpl (by omega) (by omega) ?_
            have hin : inn v = 8 ∨ inn v = v := by unfold inn; split <;> omega
            have hM := hM.sPl (x := sI pl x (inn v)) ((sI_len _ _ _).trans lpl)
            obtain ⟨m0, m1, mch, map, mpl, mwm, mlf, mrt, mws, mrw, mpt, mwh, mon, mtw, mdn, lch, lap, lpl, lwm, llf, lrt, lws, lrw, lpt, lwh, lon, ltw, ldn, m8⟩ := id hM
            refine wp_al0 (q := 78) dX4_put_77 rfl (wp_v0 (q := 81) dX4_put_78 rfl q120 (Nat.le_of_ble_eq_true rfl) rfl m0 m1 rfl rfl ((mt_undecide 0 hM).up (by omega)) (fun r9 h9 e9 => ?_))
            obtain ⟨rfl, hM9, hf9⟩ := e9
            show Wp _ _ _ _ [] _ _ _
            refine wp_il3 (q := 82) dX4_put_81 rfl (wp_bi (q := 84) dX4_put_82 rfl (by decide) (by decide) (wp_icmp_ne (t := 92) (q := 87) dX4_put_84 rfl rfl (fun c84 => ?_) (fun c84 => ?_)))
            · refine wp_il3 (q := 93) dX4_put_92 rfl (wp_iret dX4_put_93 rfl ?_)
              refine ⟨rI ?_, ?_, fun j hj => by rw [hf9 j hj, fr_set (by omega)]⟩
              · unfold spPut
                rw [if_neg (by omega), if_neg (by omega), show rd8 pl x = gI pl x by unfold rd8; rw [if_pos (by omega)]]
                unfold tld
                first
                  | exact (if_pos c84).symm
                  | exact (if_neg c84).symm
              · rw [if_pos (by omega)]
                exact ⟨_, lf, rt, ws, rw, pt, wh, on, tw, wo, wt, il, dr, dn, hM9, WmO_new, hil, hdr, trivial⟩
            · refine wp_bi (q := 89) dX4_put_87 rfl (by decide) (by decide) (wp_goto (q := 93) dX4_put_89 rfl (wp_iret dX4_put_93 rfl ?_))
              refine ⟨rI ?_, ?_, fun j hj => by rw [hf9 j hj, fr_set (by omega)]⟩
              · unfold spPut
                rw [if_neg (by omega), if_neg (by omega), show rd8 pl x = gI pl x by unfold rd8; rw [if_pos (by omega)]]
                unfold tld
                first
                  | exact (if_pos c84).symm
                  | exact (if_neg c84).symm
              · rw [if_pos (by omega)]
                exact ⟨_, lf, rt, ws, rw, pt, wh, on, tw, wo, wt, il, dr, dn, hM9, WmO_new, hil, hdr, trivial⟩
          · refine wp_bi (q := 72) dX4_put_70 rfl (by decide) (by decide) (wp_goto (q := 76) dX4_put_72 rfl ?_)
            first
              | (rw [show (mI 8 : mV) = mI (inn v) by unfold inn; rw [if_pos c67]])
              | (rw [show mI v = mI (inn v) by unfold inn; rw [if_neg c67]])
            refine wp_iastore (q := 77) dX4_put_76 rfl (by omega) mpl (by omega) (by omega) ?_
            have hin : inn v = 8 ∨ inn v = v := by unfold inn; split <;> omega
            have hM := hM.sPl (x := sI pl x (inn v)) ((sI_len _ _ _).trans lpl)
            obtain ⟨m0, m1, mch, map, mpl, mwm, mlf, mrt, mws, mrw, mpt, mwh, mon, mtw, mdn, lch, lap, lpl, lwm, llf, lrt, lws, lrw, lpt, lwh, lon, ltw, ldn, m8⟩ := id hM
            refine wp_al0 (q := 78) dX4_put_77 rfl (wp_v0 (q := 81) dX4_put_78 rfl q120 (Nat.le_of_ble_eq_true rfl) rfl m0 m1 rfl rfl ((mt_undecide 0 hM).up (by omega)) (fun r9 h9 e9 => ?_))
            obtain ⟨rfl, hM9, hf9⟩ := e9
            show Wp _ _ _ _ [] _ _ _
            refine wp_il3 (q := 82) dX4_put_81 rfl (wp_bi (q := 84) dX4_put_82 rfl (by decide) (by decide) (wp_icmp_ne (t := 92) (q := 87) dX4_put_84 rfl rfl (fun c84 => ?_) (fun c84 => ?_)))
            · refine wp_il3 (q := 93) dX4_put_92 rfl (wp_iret dX4_put_93 rfl ?_)
              refine ⟨rI ?_, ?_, fun j hj => by rw [hf9 j hj, fr_set (by omega)]⟩
              · unfold spPut
                rw [if_neg (by omega), if_neg (by omega), show rd8 pl x = gI pl x by unfold rd8; rw [if_pos (by omega)]]
                unfold tld
                first
                  | exact (if_pos c84).symm
                  | exact (if_neg c84).symm
              · rw [if_pos (by omega)]
                exact ⟨_, lf, rt, ws, rw, pt, wh, on, tw, wo, wt, il, dr, dn, hM9, WmO_new, hil, hdr, trivial⟩
            · refine wp_bi (q := 89) dX4_put_87 rfl (by decide) (by decide) (wp_goto (q := 93) dX4_put_89 rfl (wp_iret dX4_put_93 rfl ?_))
              refine ⟨rI ?_, ?_, fun j hj => by rw [hf9 j hj, fr_set (by omega)]⟩
              · unfold spPut
                rw [if_neg (by omega), if_neg (by omega), show rd8 pl x = gI pl x by unfold rd8; rw [if_pos (by omega)]]
                unfold tld
                first
                  | exact (if_pos c84).symm
                  | exact (if_neg c84).symm
              · rw [if_pos (by omega)]
                exact ⟨_, lf, rt, ws, rw, pt, wh, on, tw, wo, wt, il, dr, dn, hM9, WmO_new, hil, hdr, trivial⟩
        · refine wp_al0 (q := 31) dX4_put_30 rfl (wp_il2 (q := 32) dX4_put_31 rfl (wp_v1I (q := 35) dX4_put_32 rfl q129 (Nat.le_of_ble_eq_true rfl) rfl m0 m1 rfl rfl ((mt_placeOf 0 hM).up (by omega)) (wp_bi (q := 37) dX4_put_35 rfl (by decide) (by decide) (wp_icmp_eq (t := 52) (q := 40) dX4_put_37 rfl rfl (fun c37 => ?_) (fun c37 => ?_)))))
          · refine wp_al0 (q := 53) dX4_put_52 rfl (wp_getf (q := 56) dX4_put_53 rfl f26 m0 m1 rfl (fun z => nomatch z) (wp_il1 (q := 57) dX4_put_56 rfl (wp_iaload (q := 58) dX4_put_57 rfl mpl (by omega) (by omega) (wp_is3 (q := 59) dX4_put_58 rfl rfl (wp_al0 (q := 60) dX4_put_59 rfl (wp_getf (q := 63) dX4_put_60 rfl f26 m0 m1 rfl (fun z => nomatch z) (wp_il1 (q := 64) dX4_put_63 rfl (wp_il2 (q := 65) dX4_put_64 rfl (wp_bi (q := 67) dX4_put_65 rfl (by decide) (by decide) (wp_icmp_ne (t := 75) (q := 70) dX4_put_67 rfl rfl (fun c67 => ?_) (fun c67 => ?_)))))))))))
            · refine wp_il2 (q := 76) dX4_put_75 rfl ?_
              first
                | (rw [show (mI 8 : mV) = mI (inn v) by unfold inn; rw [if_pos c67]])
                | (rw [show mI v = mI (inn v) by unfold inn; rw [if_neg c67]])
              refine wp_iastore (q := 77) dX4_put_76 rfl (by omega) mpl (by omega) (by omega) ?_
              have hin : inn v = 8 ∨ inn v = v := by unfold inn; split <;> omega
              have hM := hM.sPl (x := sI pl x (inn v)) ((sI_len _ _ _).trans lpl)
              obtain ⟨m0, m1, mch, map, mpl, mwm, mlf, mrt, mws, mrw, mpt, mwh, mon, mtw, mdn, lch, lap, lpl, lwm, llf, lrt, lws, lrw, lpt, lwh, lon, ltw, ldn, m8⟩ := id hM
              refine wp_al0 (q := 78) dX4_put_77 rfl (wp_v0 (q := 81) dX4_put_78 rfl q120 (Nat.le_of_ble_eq_true rfl) rfl m0 m1 rfl rfl ((mt_undecide 0 hM).up (by omega)) (fun r9 h9 e9 => ?_))
              obtain ⟨rfl, hM9, hf9⟩ := e9
              show Wp _ _ _ _ [] _ _ _
              refine wp_il3 (q := 82) dX4_put_81 rfl (wp_bi (q := 84) dX4_put_82 rfl (by decide) (by decide) (wp_icmp_ne (t := 92) (q := 87) dX4_put_84 rfl rfl (fun c84 => ?_) (fun c84 => ?_)))
              · refine wp_il3 (q := 93) dX4_put_92 rfl (wp_iret dX4_put_93 rfl ?_)
                refine ⟨rI ?_, ?_, fun j hj => by rw [hf9 j hj, fr_set (by omega)]⟩
                · unfold spPut
                  rw [if_neg (by omega), if_neg (by omega), show rd8 pl x = gI pl x by unfold rd8; rw [if_pos (by omega)]]
                  unfold tld
                  first
                    | exact (if_pos c84).symm
                    | exact (if_neg c84).symm
                · rw [if_pos (by omega)]
                  exact ⟨_, lf, rt, ws, rw, pt, wh, on, tw, wo, wt, il, dr, dn, hM9, WmO_new, hil, hdr, trivial⟩
              · refine wp_bi (q := 89) dX4_put_87 rfl (by decide) (by decide) (wp_goto (q := 93) dX4_put_89 rfl (wp_iret dX4_put_93 rfl ?_))
                refine ⟨rI ?_, ?_, fun j hj => by rw [hf9 j hj, fr_set (by omega)]⟩
                · unfold spPut
                  rw [if_neg (by omega), if_neg (by omega), show rd8 pl x = gI pl x by unfold rd8; rw [if_pos (by omega)]]
                  unfold tld
                  first
                    | exact (if_pos c84).symm
                    | exact (if_neg c84).symm
                · rw [if_pos (by omega)]
                  exact ⟨_, lf, rt, ws, rw, pt, wh, on, tw, wo, wt, il, dr, dn, hM9, WmO_new, hil, hdr, trivial⟩
            · refine wp_bi (q := 72) dX4_put_70 rfl (by decide) (by decide) (wp_goto (q := 76) dX4_put_72 rfl ?_)
              first
                | (rw [show (mI 8 : mV) = mI (inn v) by unfold inn; rw [if_pos c67]])
                | (rw [show mI v = mI (inn v) by unfold inn; rw [if_neg c67]])
              refine wp_iastore (q := 77) dX4_put_76 rfl (by omega) mpl (by omega) (by omega) ?_
              have hin : inn v = 8 ∨ inn v = v := by unfold inn; split <;> omega
              have hM := hM.sPl (x := sI pl x (inn v)) ((sI_len _ _ _).trans lpl)
              obtain ⟨m0, m1, mch, map, mpl, mwm, mlf, mrt, mws, mrw, mpt, mwh, mon, mtw, mdn, lch, lap, lpl, lwm, llf, lrt, lws, lrw, lpt, lwh, lon, ltw, ldn, m8⟩ := id hM
              refine wp_al0 (q := 78) dX4_put_77 rfl (wp_v0 (q := 81) dX4_put_78 rfl q120 (Nat.le_of_ble_eq_true rfl) rfl m0 m1 rfl rfl ((mt_undecide 0 hM).up (by omega)) (fun r9 h9 e9 => ?_))
              obtain ⟨rfl, hM9, hf9⟩ := e9
              show Wp _ _ _ _ [] _ _ _
              refine wp_il3 (q := 82) dX4_put_81 rfl (wp_bi (q := 84) dX4_put_82 rfl (by decide) (by decide) (wp_icmp_ne (t := 92) (q := 87) dX4_put_84 rfl rfl (fun c84 => ?_) (fun c84 => ?_)))
              · refine wp_il3 (q := 93) dX4_put_92 rfl (wp_iret dX4_put_93 rfl ?_)
                refine ⟨rI ?_, ?_, fun j hj => by rw [hf9 j hj, fr_set (by omega)]⟩
                · unfold spPut
                  rw [if_neg (by omega), if_neg (by omega), show rd8 pl x = gI pl x by unfold rd8; rw [if_pos (by omega)]]
                  unfold tld
                  first
                    | exact (if_pos c84).symm
                    | exact (if_neg c84).symm
                · rw [if_pos (by omega)]
                  exact ⟨_, lf, rt, ws, rw, pt, wh, on, tw, wo, wt, il, dr, dn, hM9, WmO_new, hil, hdr, trivial⟩
              · refine wp_bi (q := 89) dX4_put_87 rfl (by decide) (by decide) (wp_goto (q := 93) dX4_put_89 rfl (wp_iret dX4_put_93 rfl ?_))
                refine ⟨rI ?_, ?_, fun j hj => by rw [hf9 j hj, fr_set (by omega)]⟩
                · unfold spPut
                  rw [if_neg (by omega), if_neg (by omega), show rd8 pl x = gI pl x by unfold rd8; rw [if_pos (by omega)]]
                  unfold tld
                  first
                    | exact (if_pos c84).symm
                    | exact (if_neg c84).symm
                · rw [if_pos (by omega)]
                  exact ⟨_, lf, rt, ws, rw, pt, wh, on, tw, wo, wt, il, dr, dn, hM9, WmO_new, hil, hdr, trivial⟩
          · refine wp_al0 (q := 41) dX4_put_40 rfl (wp_il2 (q := 42) dX4_put_41 rfl (wp_v1I (q := 45) dX4_put_42 rfl q129 (Nat.le_of_ble_eq_true rfl) rfl m0 m1 rfl rfl ((mt_placeOf 0 hM).up (by omega)) (wp_il1 (q := 46) dX4_put_45 rfl (wp_icmp_eq (t := 52) (q := 49) dX4_put_46 rfl rfl (fun c46 => ?_) (fun c46 => ?_)))))
            · refine wp_al0 (q := 53) dX4_put_52 rfl (wp_getf (q := 56) dX4_put_53 rfl f26 m0 m1 rfl (fun z => nomatch z) (wp_il1 (q := 57) dX4_put_56 rfl (wp_iaload (q := 58) dX4_put_57 rfl mpl (by omega) (by omega) (wp_is3 (q := 59) dX4_put_58 rfl rfl (wp_al0 (q := 60) dX4_put_59 rfl (wp_getf (q := 63) dX4_put_60 rfl f26 m0 m1 rfl (fun z => nomatch z) (wp_il1 (q := 64) dX4_put_63 rfl (wp_il2 (q := 65) dX4_put_64 rfl (wp_bi (q := 67) dX4_put_65 rfl (by decide) (by decide) (wp_icmp_ne (t := 75) (q := 70) dX4_put_67 rfl rfl (fun c67 => ?_) (fun c67 => ?_)))))))))))
              · refine wp_il2 (q := 76) dX4_put_75 rfl ?_
                first
                  | (rw [show (mI 8 : mV) = mI (inn v) by unfold inn; rw [if_pos c67]])
                  | (rw [show mI v = mI (inn v) by unfold inn; rw [if_neg c67]])
                refine wp_iastore (q := 77) dX4_put_76 rfl (by omega) mpl (by omega) (by omega) ?_
                have hin : inn v = 8 ∨ inn v = v := by unfold inn; split <;> omega
                have hM := hM.sPl (x := sI pl x (inn v)) ((sI_len _ _ _).trans lpl)
                obtain ⟨m0, m1, mch, map, mpl, mwm, mlf, mrt, mws, mrw, mpt, mwh, mon, mtw, mdn, lch, lap, lpl, lwm, llf, lrt, lws, lrw, lpt, lwh, lon, ltw, ldn, m8⟩ := id hM
                refine wp_al0 (q := 78) dX4_put_77 rfl (wp_v0 (q := 81) dX4_put_78 rfl q120 (Nat.le_of_ble_eq_true rfl) rfl m0 m1 rfl rfl ((mt_undecide 0 hM).up (by omega)) (fun r9 h9 e9 => ?_))
                obtain ⟨rfl, hM9, hf9⟩ := e9
                show Wp _ _ _ _ [] _ _ _
                refine wp_il3 (q := 82) dX4_put_81 rfl (wp_bi (q := 84) dX4_put_82 rfl (by decide) (by decide) (wp_icmp_ne (t := 92) (q := 87) dX4_put_84 rfl rfl (fun c84 => ?_) (fun c84 => ?_)))
                · refine wp_il3 (q := 93) dX4_put_92 rfl (wp_iret dX4_put_93 rfl ?_)
                  refine ⟨rI ?_, ?_, fun j hj => by rw [hf9 j hj, fr_set (by omega)]⟩
                  · unfold spPut
                    rw [if_neg (by omega), if_neg (by omega), show rd8 pl x = gI pl x by unfold rd8; rw [if_pos (by omega)]]
                    unfold tld
                    first
                      | exact (if_pos c84).symm
                      | exact (if_neg c84).symm
                  · rw [if_pos (by omega)]
                    exact ⟨_, lf, rt, ws, rw, pt, wh, on, tw, wo, wt, il, dr, dn, hM9, WmO_new, hil, hdr, trivial⟩
                · refine wp_bi (q := 89) dX4_put_87 rfl (by decide) (by decide) (wp_goto (q := 93) dX4_put_89 rfl (wp_iret dX4_put_93 rfl ?_))
                  refine ⟨rI ?_, ?_, fun j hj => by rw [hf9 j hj, fr_set (by omega)]⟩
                  · unfold spPut
                    rw [if_neg (by omega), if_neg (by omega), show rd8 pl x = gI pl x by unfold rd8; rw [if_pos (by omega)]]
                    unfold tld
                    first
                      | exact (if_pos c84).symm
                      | exact (if_neg c84).symm
                  · rw [if_pos (by omega)]
                    exact ⟨_, lf, rt, ws, rw, pt, wh, on, tw, wo, wt, il, dr, dn, hM9, WmO_new, hil, hdr, trivial⟩
              · refine wp_bi (q := 72) dX4_put_70 rfl (by decide) (by decide) (wp_goto (q := 76) dX4_put_72 rfl ?_)
                first
                  | (rw [show (mI 8 : mV) = mI (inn v) by unfold inn; rw [if_pos c67]])
                  | (rw [show mI v = mI (inn v) by unfold inn; rw [if_neg c67]])
                refine wp_iastore (q := 77) dX4_put_76 rfl (by omega) mpl (by omega) (by omega) ?_
                have hin : inn v = 8 ∨ inn v = v := by unfold inn; split <;> omega
                have hM := hM.sPl (x := sI pl x (inn v)) ((sI_len _ _ _).trans lpl)
                obtain ⟨m0, m1, mch, map, mpl, mwm, mlf, mrt, mws, mrw, mpt, mwh, mon, mtw, mdn, lch, lap, lpl, lwm, llf, lrt, lws, lrw, lpt, lwh, lon, ltw, ldn, m8⟩ := id hM
                refine wp_al0 (q := 78) dX4_put_77 rfl (wp_v0 (q := 81) dX4_put_78 rfl q120 (Nat.le_of_ble_eq_true rfl) rfl m0 m1 rfl rfl ((mt_undecide 0 hM).up (by omega)) (fun r9 h9 e9 => ?_))
                obtain ⟨rfl, hM9, hf9⟩ := e9
                show Wp _ _ _ _ [] _ _ _
                refine wp_il3 (q := 82) dX4_put_81 rfl (wp_bi (q := 84) dX4_put_82 rfl (by decide) (by decide) (wp_icmp_ne (t := 92) (q := 87) dX4_put_84 rfl rfl (fun c84 => ?_) (fun c84 => ?_)))
                · refine wp_il3 (q := 93) dX4_put_92 rfl (wp_iret dX4_put_93 rfl ?_)
                  refine ⟨rI ?_, ?_, fun j hj => by rw [hf9 j hj, fr_set (by omega)]⟩
                  · unfold spPut
                    rw [if_neg (by omega), if_neg (by omega), show rd8 pl x = gI pl x by unfold rd8; rw [if_pos (by omega)]]
                    unfold tld
                    first
                      | exact (if_pos c84).symm
                      | exact (if_neg c84).symm
                  · rw [if_pos (by omega)]
                    exact ⟨_, lf, rt, ws, rw, pt, wh, on, tw, wo, wt, il, dr, dn, hM9, WmO_new, hil, hdr, trivial⟩
                · refine wp_bi (q := 89) dX4_put_87 rfl (by decide) (by decide) (wp_goto (q := 93) dX4_put_89 rfl (wp_iret dX4_put_93 rfl ?_))
                  refine ⟨rI ?_, ?_, fun j hj => by rw [hf9 j hj, fr_set (by omega)]⟩
                  · unfold spPut
                    rw [if_neg (by omega), if_neg (by omega), show rd8 pl x = gI pl x by unfold rd8; rw [if_pos (by omega)]]
                    unfold tld
                    first
                      | exact (if_pos c84).symm
                      | exact (if_neg c84).symm
                  · rw [if_pos (by omega)]
                    exact ⟨_, lf, rt, ws, rw, pt, wh, on, tw, wo, wt, il, dr, dn, hM9, WmO_new, hil, hdr, trivial⟩
            · refine wp_bi (q := 51) dX4_put_49 rfl (by decide) (by decide) (wp_iret dX4_put_51 rfl ?_)
              refine ⟨rI ?_, by rw [if_neg (by omega)]; exact hS, fun _ _ => rfl⟩
              unfold spPut
              (repeat' split) <;> omega
      · refine wp_ic (q := 23) dX4_put_22 rfl (by decide) (by decide) (wp_iret dX4_put_23 rfl ?_)
        refine ⟨rI ?_, by rw [if_neg (by omega)]; exact hS, fun _ _ => rfl⟩
        unfold spPut
        (repeat' split) <;> omega
theorem ms_at (d : Nat) {h : List mC} {g n sz : Nat} {ch ro pl wi : List Int} (hS : MS h g n sz ch ro pl wi) {x : Int} : Rt (d + 2) mX4_at [mR g, mI x] h (some (mI (spAt sz pl x))) (h) := by
  obtain ⟨wm, lf, rt, ws, rw, pt, wh, on, tw, wo, wt, il, dr, dn, hM, hwm, hil, hdr, hf0⟩ := id hS
  obtain ⟨m0, m1, mch, map, mpl, mwm, mlf, mrt, mws, mrw, mpt, mwh, mon, mtw, mdn, lch, lap, lpl, lwm, llf, lrt, lws, lrw, lpt, lwh, lon, ltw, ldn, m8⟩ := id hM
  show Wp _ mX4_at 0 [mR g, mI x] [] h (0, 0) _
  refine wp_al0 (q := 1) dX4_at_0 rfl (wp_il1 (q := 2) dX4_at_1 rfl (wp_v1I (q := 5) dX4_at_2 rfl q128 (Nat.le_of_ble_eq_true rfl) rfl m0 m1 rfl rfl ((mt_isPlace 0 hM).up (by omega)) (wp_ifb_ne (t := 12) (q := 8) dX4_at_5 rfl rfl (fun c5 => ?_) (fun c5 => ?_))))
  · refine wp_al0 (q := 13) dX4_at_12 rfl (wp_getf (q := 16) dX4_at_13 rfl f26 m0 m1 rfl (fun z => nomatch z) (wp_il1 (q := 17) dX4_at_16 rfl (wp_iaload (q := 18) dX4_at_17 rfl mpl (by omega) (by omega) (wp_bi (q := 20) dX4_at_18 rfl (by decide) (by decide) (wp_icmp_ne (t := 28) (q := 23) dX4_at_20 rfl rfl (fun c20 => ?_) (fun c20 => ?_))))))
    · refine wp_al0 (q := 29) dX4_at_28 rfl (wp_getf (q := 32) dX4_at_29 rfl f26 m0 m1 rfl (fun z => nomatch z) (wp_il1 (q := 33) dX4_at_32 rfl (wp_iaload (q := 34) dX4_at_33 rfl mpl (by omega) (by omega) (wp_iret dX4_at_34 rfl ?_))))
      refine ⟨rI ?_, rfl⟩
      unfold spAt
      first
        | rw [if_neg (by omega)]
        | (rw [if_pos (by omega), show rd8 pl x = gI pl x by unfold rd8; rw [if_pos (by omega)]]
           unfold tld
           first
             | exact (if_pos c20).symm
             | exact (if_neg c20).symm)
    · refine wp_bi (q := 25) dX4_at_23 rfl (by decide) (by decide) (wp_goto (q := 34) dX4_at_25 rfl (wp_iret dX4_at_34 rfl ?_))
      refine ⟨rI ?_, rfl⟩
      unfold spAt
      first
        | rw [if_neg (by omega)]
        | (rw [if_pos (by omega), show rd8 pl x = gI pl x by unfold rd8; rw [if_pos (by omega)]]
           unfold tld
           first
             | exact (if_pos c20).symm
             | exact (if_neg c20).symm)
  · refine wp_ic (q := 9) dX4_at_8 rfl (by decide) (by decide) (wp_goto (q := 34) dX4_at_9 rfl (wp_iret dX4_at_34 rfl ?_))
    refine ⟨rI ?_, rfl⟩
    unfold spAt
    first
      | rw [if_neg (by omega)]
      | (rw [if_pos (by omega), show rd8 pl x = gI pl x by unfold rd8; rw [if_pos (by omega)]]
         unfold tld
         first
           | exact (if_pos c20).symm
           | exact (if_neg c20).symm)
