/-! the model: open, count (rows laid by wip/whole) -/
theorem mt_decided (d : Nat) {h : List mC} {g : Nat} {n sz : Int} {ch ap pl wm lf rt ws rw pt wh on tw : List Int} {wo wt il dr : Int} {dn : List Int} (hM : MU h g n sz ch ap pl wm lf rt ws rw pt wh on tw wo wt il dr dn) : Rt (d + 0) mX4_decided [mR g] h (some (mI (sumN (fun i => bI (gI wm i ≠ -9)) 7))) h := by
  obtain ⟨m0, m1, mch, map, mpl, mwm, mlf, mrt, mws, mrw, mpt, mwh, mon, mtw, mdn, lch, lap, lpl, lwm, llf, lrt, lws, lrw, lpt, lwh, lon, ltw, ldn, m8⟩ := id hM
  have key : ∀ (j : Nat), j ≤ 7 → ∀ (c x : Int), x = j → c = sumN (fun i => bI (gI wm i ≠ -9)) j → Wp (d + 0) mX4_decided 4 [mR g, mI c, mI x] [] h (0, 0) (fun r' h' => r' = some (mI (sumN (fun i => bI (gI wm i ≠ -9)) 7)) ∧ h' = h) := by
    refine loop_up _ _ ?_ ?_
    · intro c x hx hc
      refine wp_il2 (q := 5) dX4_decided_4 rfl (wp_bi (q := 7) dX4_decided_5 rfl (by decide) (by decide) (wp_icmp_ge (t := 35) (q := 10) dX4_decided_7 rfl rfl (fun c7 => ?_) (fun c7 => ?_)))
      · refine wp_il1 (q := 36) dX4_decided_35 rfl (wp_iret dX4_decided_36 rfl ?_)
        exact ⟨rI hc, rfl⟩
      · exfalso; omega
    · intro j hj ih c x hx hc
      have bo := sumB_in (p := fun i : Nat => gI wm i ≠ -9) j
      have e1 : sumN (fun i => bI (gI wm i ≠ -9)) (j + 1) = sumN (fun i => bI (gI wm i ≠ -9)) j + bI (gI wm j ≠ -9) := rfl
      rw [← hx, ← hc] at e1
      rw [← hc] at bo
      refine wp_il2 (q := 5) dX4_decided_4 rfl (wp_bi (q := 7) dX4_decided_5 rfl (by decide) (by decide) (wp_icmp_ge (t := 35) (q := 10) dX4_decided_7 rfl rfl (fun c7 => ?_) (fun c7 => ?_)))
      · exfalso; omega
      · refine wp_il1 (q := 11) dX4_decided_10 rfl (wp_al0 (q := 12) dX4_decided_11 rfl (wp_getf (q := 15) dX4_decided_12 rfl f27 m0 m1 rfl (fun z => nomatch z) (wp_il2 (q := 16) dX4_decided_15 rfl (wp_iaload (q := 17) dX4_decided_16 rfl mwm (by omega) (by omega) (wp_bi (q := 19) dX4_decided_17 rfl (by decide) (by decide) (wp_icmp_ne (t := 26) (q := 22) dX4_decided_19 rfl rfl (fun c19 => ?_) (fun c19 => ?_)))))))
        · have c19 : gI wm x ≠ -9 := c19
          rw [bI_t c19] at e1
          refine wp_ic (q := 27) dX4_decided_26 rfl (by decide) (by decide) (wp_iadd (q := 28) dX4_decided_27 rfl (by omega) (by omega) (wp_is1 (q := 29) dX4_decided_28 rfl rfl (wp_ii2 (q := 32) dX4_decided_29 rfl rfl (by omega) (by omega) (wp_goto (q := 4) dX4_decided_32 rfl ?_))))
          exact ih _ _ (by omega) (by omega)
        · have c19 : gI wm x = -9 := c19
          rw [bI_f (fun z => z c19)] at e1
          refine wp_ic (q := 23) dX4_decided_22 rfl (by decide) (by decide) (wp_goto (q := 27) dX4_decided_23 rfl (wp_iadd (q := 28) dX4_decided_27 rfl (by omega) (by omega) (wp_is1 (q := 29) dX4_decided_28 rfl rfl (wp_ii2 (q := 32) dX4_decided_29 rfl rfl (by omega) (by omega) (wp_goto (q := 4) dX4_decided_32 rfl ?_)))))
          exact ih _ _ (by omega) (by omega)
  show Wp _ mX4_decided 0 [mR g, mU, mU] [] h (0, 0) _
  refine wp_ic (q := 1) dX4_decided_0 rfl (by decide) (by decide) (wp_is1 (q := 2) dX4_decided_1 rfl rfl (wp_ic (q := 3) dX4_decided_2 rfl (by decide) (by decide) (wp_is2 (q := 4) dX4_decided_3 rfl rfl ?_)))
  exact key 0 (Nat.zero_le _) 0 0 rfl rfl
theorem sumN_tail {f : Nat → Int} {a : Nat} : ∀ b : Nat, a ≤ b → (∀ i, a ≤ i → i < b → f i = 0) → sumN f b = sumN f a
  | 0, h, _ => by rw [show a = 0 by omega]
  | b + 1, h, hz => by
    by_cases e : a = b + 1
    · rw [e]
    · show sumN f b + f b = _
      rw [hz b (by omega) (by omega), sumN_tail b (by omega) (fun i h1 h2 => hz i h1 (by omega))]
      omega
theorem tld_9 {x : Int} (h0 : 0 ≤ x) (h8 : x ≤ 8) : tld x = -9 ↔ x = 8 := by unfold tld; split <;> omega
theorem dcW {sz : Nat} {wi wm : List Int} (hs : (sz : Int) = 2 ∨ (sz : Int) = 4 ∨ (sz : Int) = 8) (hwt : ∀ x : Int, (sz : Int) - 1 ≤ x → x < 8 → rd8 wi x = 8) (hwv : v8 wi) (hw : WmO wi wm) : sumN (fun i => bI (gI wm i ≠ -9)) 7 = dcA sz wi := by
  unfold dcA
  have e : sumN (fun i => bI (gI wm i ≠ -9)) 7 = sumN (fun i => bI (rd8 wi i ≠ 8)) 7 := sumN_congr _ (fun i hi => by
    rw [hw i (by omega) (by omega)]
    have := rd8_in hwv (i : Int)
    exact bI_c (not_congr (tld_9 this.1 this.2)))
  rw [e]
  exact sumN_tail _ (by omega) (fun i h1 h2 => bI_f (fun z => z (hwt i (by omega) (by omega))))
/-- where the walk up stands -/
def upD (sz r j k : Int) : Prop := (sz = 2 ∧ (r = 1 ∧ j = k ∧ k < 1 ∨ r = 2 ∧ 1 ≤ j)) ∨ (sz = 4 ∧ (r = 1 ∧ j = k ∧ k < 2 ∨ r = 2 ∧ j = 2 + k ∧ k < 1 ∨ r = 3 ∧ 3 ≤ j)) ∨ (sz = 8 ∧ (r = 1 ∧ j = k ∧ k < 4 ∨ r = 2 ∧ j = 4 + k ∧ k < 2 ∨ r = 3 ∧ j = 6 + k ∧ k < 1 ∨ r = 4 ∧ 7 ≤ j))
theorem upD_of {sz m : Int} (hs : sz = 2 ∨ sz = 4 ∨ sz = 8) (h0 : 0 ≤ m) (h1 : m < sz - 1) : upD sz (rdO sz m) m (m - fmA sz (rdO sz m)) ∧ 0 ≤ m - fmA sz (rdO sz m) ∧ 1 ≤ rdO sz m ∧ rdO sz m ≤ lrA sz ∧ 0 ≤ fmA sz (rdO sz m) ∧ fmA sz (rdO sz m) ≤ 8 := by
  rcases (show (sz = 2 ∧ m = 0) ∨ (sz = 4 ∧ (m = 0 ∨ m = 1 ∨ m = 2)) ∨ (sz = 8 ∧ (m = 0 ∨ m = 1 ∨ m = 2 ∨ m = 3 ∨ m = 4 ∨ m = 5 ∨ m = 6)) by omega) with ⟨rfl, rfl⟩ | ⟨rfl, rfl | rfl | rfl⟩ | ⟨rfl, rfl | rfl | rfl | rfl | rfl | rfl | rfl⟩ <;> exact ⟨by unfold upD; decide, by decide⟩
theorem upD_fm {sz r j k : Int} (hD : upD sz r j k) (hr : r ≤ lrA sz) : j = fmA sz r + k ∧ j < sz - 1 := by
  have f2 : fmA sz 2 = sz - sz / 2 := rfl
  have f3 : fmA sz 3 = sz - sz / 4 := rfl
  have f1 : fmA sz 1 = 0 := rfl
  have hl2 : sz = 2 ∨ sz = 4 ∨ sz = 8 → lrA sz = 1 ∧ sz = 2 ∨ lrA sz = 2 ∧ sz = 4 ∨ lrA sz = 3 ∧ sz = 8 := by rintro (rfl | rfl | rfl) <;> decide
  unfold upD at hD
  rcases (show r = 1 ∨ r = 2 ∨ r = 3 ∨ r = 4 by omega) with rfl | rfl | rfl | rfl <;> omega
theorem upD_st {sz r j k : Int} (hD : upD sz r j k) (hk : 0 ≤ k) (hr : r ≤ lrA sz) : upD sz (r + 1) ((sz + j) / 2) (k / 2) := by
  unfold upD at hD
  rcases hD with ⟨rfl, ⟨rfl, rfl, h⟩ | ⟨rfl, h⟩⟩ | ⟨rfl, ⟨rfl, rfl, h⟩ | ⟨rfl, rfl, h⟩ | ⟨rfl, h⟩⟩ | ⟨rfl, ⟨rfl, rfl, h⟩ | ⟨rfl, rfl, h⟩ | ⟨rfl, rfl, h⟩ | ⟨rfl, h⟩⟩
  · exact Or.inl ⟨rfl, Or.inr ⟨rfl, by omega⟩⟩
  · exact absurd hr (by decide)
  · exact Or.inr (Or.inl ⟨rfl, Or.inr (Or.inl ⟨rfl, by omega, by omega⟩)⟩)
  · exact Or.inr (Or.inl ⟨rfl, Or.inr (Or.inr ⟨rfl, by omega⟩)⟩)
  · exact absurd hr (by decide)
  · exact Or.inr (Or.inr ⟨rfl, Or.inr (Or.inl ⟨rfl, by omega, by omega⟩)⟩)
  · exact Or.inr (Or.inr ⟨rfl, Or.inr (Or.inr (Or.inl ⟨rfl, by omega, by omega⟩))⟩)
  · exact Or.inr (Or.inr ⟨rfl, Or.inr (Or.inr (Or.inr ⟨rfl, by omega⟩))⟩)
  · exact absurd hr (by decide)
theorem upD_end {sz r j k : Int} (hD : upD sz r j k) (hr : lrA sz < r) : sz - 1 ≤ j := by
  have hl2 : sz = 2 ∨ sz = 4 ∨ sz = 8 → lrA sz = 1 ∧ sz = 2 ∨ lrA sz = 2 ∧ sz = 4 ∨ lrA sz = 3 ∧ sz = 8 := by rintro (rfl | rfl | rfl) <;> decide
  unfold upD at hD
  omega
theorem upW_out {sz j : Int} (h : sz - 1 ≤ j) : ∀ (f : Nat) (wi : List Int), upW sz f j wi = wi
  | 0, _ => rfl
  | f + 1, wi => by unfold upW; rw [if_neg (by omega)]
theorem WmO_set {wi wm : List Int} {x v : Int} (hw : WmO wi wm) (hl : wi.length = 8) (hm : wm.length = 7) (h0 : 0 ≤ x) (h1 : x < 7) : WmO (sI wi x v) (sI wm x (tld v)) := fun y y0 y1 => by
  by_cases e : y = x
  · rw [e, gI_eq h0 (by omega)]
    unfold rd8
    rw [if_pos (by omega), gI_eq h0 (by omega)]
  · have := hw y y0 y1
    rw [gI_ne h0 y0 (by omega)]
    unfold rd8 at this ⊢
    rw [if_pos (by omega)] at this ⊢
    rw [gI_ne h0 y0 (by omega)]
    exact this
theorem v8_upW {sz : Int} : ∀ (f : Nat) (j : Int) (wi : List Int), v8 wi → v8 (upW sz f j wi)
  | 0, _, _, h => h
  | f + 1, j, wi, h => by
    unfold upW
    split
    · exact v8_upW f _ _ (v8_set h (by omega) (by omega))
    · exact h
theorem tl_upW {sz : Int} (hs : sz ≤ 8) : ∀ (f : Nat) (j : Int) (wi : List Int), (∀ x : Int, sz - 1 ≤ x → x < 8 → rd8 wi x = 8) → ∀ x : Int, sz - 1 ≤ x → x < 8 → rd8 (upW sz f j wi) x = 8
  | 0, _, _, h => h
  | f + 1, j, wi, h => by
    unfold upW
    split
    · rename_i hj
      refine tl_upW hs f _ _ (fun x x0 x1 => ?_)
      have := h x x0 x1
      unfold rd8 at this ⊢
      by_cases c : 0 ≤ x ∧ x < 8
      · rw [if_pos c] at this ⊢
        rw [gI_ne hj.1 c.1 (by omega)]
        exact this
      · rw [if_neg c]
    · exact h
theorem ms_open (d : Nat) {h : List mC} {g n sz : Nat} {ch ro pl wi : List Int} (hS : MS h g n sz ch ro pl wi) (hwt : ∀ x : Int, (sz : Int) - 1 ≤ x → x < 8 → rd8 wi x = 8) (hwv : v8 wi) (hwl : wi.length = 8) {x : Int} : Ct (d + 3) mX4_open [mR g, mI x] h (fun r9 h9 => r9 = some (mI (spOpen sz wi x)) ∧ (if (0 ≤ x ∧ x < (sz : Int) - 1) ∧ rd8 wi x ≠ 8 then MS h9 g n sz ch ro pl (upW sz 3 x wi) else MS h9 g n sz ch ro pl wi) ∧ ∀ j : Nat, (j < g ∨ g + 14 ≤ j) → h9[j]? = h[j]?) := by
  obtain ⟨wm, lf, rt, ws, rw, pt, wh, on, tw, wo, wt, il, dr, dn, hM, hwm, hil, hdr, hf0⟩ := id hS
  obtain ⟨m0, m1, mch, map, mpl, mwm, mlf, mrt, mws, mrw, mpt, mwh, mon, mtw, mdn, lch, lap, lpl, lwm, llf, lrt, lws, lrw, lpt, lwh, lon, ltw, ldn, m8⟩ := id hM
  have key : (0 ≤ x ∧ x < (sz : Int) - 1) → rd8 wi x ≠ 8 → ∀ j : Nat, j ≤ (lrA sz).toNat + 1 → ∀ (h1 : List mC) (wm wi1 : List Int) (k y r : Int) (f : Nat), r = j → upD sz r y k → 0 ≤ k → upW sz f y wi1 = upW sz 3 x wi → lrA sz + 1 ≤ f + r → MU h1 g (n : Int) (sz : Int) ch ro pl wm lf rt ws rw pt wh on tw wo wt il dr dn → WmO wi1 wm → wi1.length = 8 → (∀ j : Nat, (j < g ∨ g + 14 ≤ j) → h1[j]? = h[j]?) → Wp (d + 3) mX4_open 42 [mR g, mI x, mI k, mI r] [] h1 (0, 0) (fun r9 h9 => r9 = some (mI (spOpen sz wi x)) ∧ (if (0 ≤ x ∧ x < (sz : Int) - 1) ∧ rd8 wi x ≠ 8 then MS h9 g n sz ch ro pl (upW sz 3 x wi) else MS h9 g n sz ch ro pl wi) ∧ ∀ j : Nat, (j < g ∨ g + 14 ≤ j) → h9[j]? = h[j]?) := by
    intro hx hx8
    have hlr := lrA_in m8
    refine loop_up _ _ ?_ ?_
    · intro h1 wm wi1 k y r f hr hD hk hu hfu hM hwm hw1 hf
      obtain ⟨m0, m1, mch, map, mpl, mwm, mlf, mrt, mws, mrw, mpt, mwh, mon, mtw, mdn, lch, lap, lpl, lwm, llf, lrt, lws, lrw, lpt, lwh, lon, ltw, ldn, m8⟩ := id hM
      have hj := upD_end hD (by omega)
      rw [upW_out hj] at hu
      subst hu
      refine wp_il3 (q := 43) dX4_open_42 rfl (wp_al0 (q := 44) dX4_open_43 rfl (wp_v0I (q := 47) dX4_open_44 rfl q135 (Nat.le_of_ble_eq_true rfl) rfl m0 m1 rfl rfl ((mt_rounds 0 hM).up (by omega)) (wp_icmp_gt (t := 74) (q := 50) dX4_open_47 rfl rfl (fun c47 => ?_) (fun c47 => ?_))))
      · refine wp_al0 (q := 75) dX4_open_74 rfl (wp_v0I (q := 78) dX4_open_75 rfl q142 (Nat.le_of_ble_eq_true rfl) rfl m0 m1 rfl rfl ((mt_decided 0 hM).up (by omega)) (wp_iret dX4_open_78 rfl ?_))
        refine ⟨rI ?_, ?_, hf⟩
        · unfold spOpen
          rw [if_neg (by omega), if_neg (by omega)]
          exact dcW m8 (tl_upW (by omega) _ _ _ hwt) (v8_upW _ _ _ hwv) hwm
        · rw [if_pos ⟨hx, hx8⟩]
          exact ⟨wm, lf, rt, ws, rw, pt, wh, on, tw, wo, wt, il, dr, dn, hM, hwm, hil, hdr, trivial⟩
      · exfalso; omega
    · intro j hj ih h1 wm wi1 k y r f hr hD hk hu hfu hM hwm hw1 hf
      obtain ⟨m0, m1, mch, map, mpl, mwm, mlf, mrt, mws, mrw, mpt, mwh, mon, mtw, mdn, lch, lap, lpl, lwm, llf, lrt, lws, lrw, lpt, lwh, lon, ltw, ldn, m8⟩ := id hM
      have hjf := fun z => upD_fm hD z
      have hy8 : r ≤ lrA sz → 0 ≤ fmA sz r ∧ 1 ≤ r → 0 ≤ y ∧ y < 7 := fun z z2 => by have := hjf z; omega
      have hfm : 1 ≤ r → r ≤ lrA sz → 0 ≤ fmA sz r ∧ fmA sz r ≤ 8 := fun z1 z2 => by rcases (show r = 1 ∨ r = 2 ∨ r = 3 by omega) with rfl | rfl | rfl <;> unfold fmA <;> simp <;> omega
      have hr1 : 1 ≤ r := by unfold upD at hD; omega
      refine wp_il3 (q := 43) dX4_open_42 rfl (wp_al0 (q := 44) dX4_open_43 rfl (wp_v0I (q := 47) dX4_open_44 rfl q135 (Nat.le_of_ble_eq_true rfl) rfl m0 m1 rfl rfl ((mt_rounds 0 hM).up (by omega)) (wp_icmp_gt (t := 74) (q := 50) dX4_open_47 rfl rfl (fun c47 => ?_) (fun c47 => ?_))))
      · exfalso; omega
      · have hfm2 := hfm hr1 (by omega)
        have hjf2 := hjf (by omega)
        refine wp_al0 (q := 51) dX4_open_50 rfl (wp_getf (q := 54) dX4_open_51 rfl f27 m0 m1 rfl (fun z => nomatch z) (wp_al0 (q := 55) dX4_open_54 rfl (wp_il3 (q := 56) dX4_open_55 rfl (wp_v1I (q := 59) dX4_open_56 rfl q136 (Nat.le_of_ble_eq_true rfl) rfl m0 m1 rfl rfl ((mt_startOf 0 hM (by omega) (by omega)).up (by omega)) (wp_il2 (q := 60) dX4_open_59 rfl (wp_iadd (q := 61) dX4_open_60 rfl (by omega) (by omega) (wp_bi (q := 63) dX4_open_61 rfl (by decide) (by decide) (wp_iastore (q := 64) dX4_open_63 rfl (by omega) mwm (by omega) (by omega) (wp_il2 (q := 65) dX4_open_64 rfl (wp_ic (q := 66) dX4_open_65 rfl (by decide) (by decide) (wp_idiv (q := 67) dX4_open_66 rfl (by omega) (by omega) (wp_is2 (q := 68) dX4_open_67 rfl rfl (wp_ii3 (q := 71) dX4_open_68 rfl rfl (by omega) (by omega) ?_)))))))))))))
        refine wp_goto (q := 42) dX4_open_71 rfl ?_
        have e : f = (f - 1) + 1 := by omega
        rw [e] at hu
        unfold upW at hu
        rw [if_pos (by omega)] at hu
        have hw2 := WmO_set (v := 8) (x := y) hwm hw1 lwm (by omega) (by omega)
        rw [show tld 8 = -9 from rfl, hjf2.1] at hw2
        refine ih _ (sI wm (fmA sz r + k) (-9)) (sI wi1 y 8) (k / 2) _ (r + 1) (f - 1) (by omega) (upD_st hD hk (by omega)) (by omega) hu (by omega) (hM.sWm ((sI_len _ _ _).trans lwm)) ?_ ((sI_len _ _ _).trans hw1) (fun j hj => by rw [fr_set (by omega)]; exact hf j hj)
        rw [hjf2.1]
        exact hw2
  show Wp _ mX4_open 0 [mR g, mI x, mU, mU] [] h (0, 0) _
  have hup := fun z1 z2 => upD_of (m := x) m8 z1 z2
  have hr8 := rd8_in hwv x
  have hlr := lrA_in m8
  refine wp_al0 (q := 1) dX4_open_0 rfl (wp_il1 (q := 2) dX4_open_1 rfl (wp_v1I (q := 5) dX4_open_2 rfl q132 (Nat.le_of_ble_eq_true rfl) rfl m0 m1 rfl rfl ((mt_isMatch 0 hM).up (by omega)) (wp_ifb_ne (t := 10) (q := 8) dX4_open_5 rfl rfl (fun c5 => ?_) (fun c5 => ?_))))
  · refine wp_al0 (q := 11) dX4_open_10 rfl (wp_getf (q := 14) dX4_open_11 rfl f27 m0 m1 rfl (fun z => nomatch z) (wp_il1 (q := 15) dX4_open_14 rfl (wp_iaload (q := 16) dX4_open_15 rfl mwm (by omega) (by omega) (wp_bi (q := 18) dX4_open_16 rfl (by decide) (by decide) (wp_icmp_ne (t := 24) (q := 21) dX4_open_18 rfl rfl (fun c18 => ?_) (fun c18 => ?_))))))
    · have hwx := hwm x (by omega) (by omega)
      have ht9 := tld_9 hr8.1 hr8.2
      have c18 : gI wm x ≠ -9 := c18
      have hup2 := hup (by omega) (by omega)
      refine wp_il1 (q := 25) dX4_open_24 rfl (wp_al0 (q := 26) dX4_open_25 rfl (wp_al0 (q := 27) dX4_open_26 rfl (wp_il1 (q := 28) dX4_open_27 rfl (wp_v1I (q := 31) dX4_open_28 rfl q134 (Nat.le_of_ble_eq_true rfl) rfl m0 m1 rfl rfl ((mt_roundOf 0 hM (by omega) (by omega)).up (by omega)) (wp_v1I (q := 34) dX4_open_31 rfl q136 (Nat.le_of_ble_eq_true rfl) rfl m0 m1 rfl rfl ((mt_startOf 0 hM hup2.2.2.1 hup2.2.2.2.1).up (by omega)) (wp_isub (q := 35) dX4_open_34 rfl (by omega) (by omega) (wp_is2 (q := 36) dX4_open_35 rfl rfl (wp_al0 (q := 37) dX4_open_36 rfl (wp_il1 (q := 38) dX4_open_37 rfl (wp_v1I (q := 41) dX4_open_38 rfl q134 (Nat.le_of_ble_eq_true rfl) rfl m0 m1 rfl rfl ((mt_roundOf 0 hM (by omega) (by omega)).up (by omega)) (wp_is3 (q := 42) dX4_open_41 rfl rfl ?_)))))))))))
      exact key (by omega) (by omega) (rdO sz x).toNat (by omega) h wm wi _ x _ 3 (by omega) hup2.1 hup2.2.1 rfl (by omega) hM hwm hwl (fun _ _ => rfl)
    · have hwx := hwm x (by omega) (by omega)
      have ht9 := tld_9 hr8.1 hr8.2
      have c18 : gI wm x = -9 := c18
      refine wp_bi (q := 23) dX4_open_21 rfl (by decide) (by decide) (wp_iret dX4_open_23 rfl ?_)
      refine ⟨rI ?_, by rw [if_neg (by omega)]; exact hS, fun _ _ => rfl⟩
      unfold spOpen
      (repeat' split) <;> omega
  · refine wp_ic (q := 9) dX4_open_8 rfl (by decide) (by decide) (wp_iret dX4_open_9 rfl ?_)
    refine ⟨rI ?_, by rw [if_neg (by omega)]; exact hS, fun _ _ => rfl⟩
    unfold spOpen
    (repeat' split) <;> omega
theorem tri_swap (f : Nat → Nat → Int) : ∀ n : Nat, sumN (fun a => sumN (fun b => f a b) a) n = sumN (fun x => sumN (fun i => f (x + 1 + i) x) (n - (x + 1))) n
  | 0 => rfl
  | n + 1 => by
    show sumN (fun a => sumN (fun b => f a b) a) n + sumN (fun b => f n b) n = sumN (fun x => sumN (fun i => f (x + 1 + i) x) (n + 1 - (x + 1))) n + sumN (fun i => f (n + 1 + i) n) (n + 1 - (n + 1))
    rw [tri_swap f n, Nat.sub_self]
    have e : sumN (fun x => sumN (fun i => f (x + 1 + i) x) (n + 1 - (x + 1))) n = sumN (fun x => sumN (fun i => f (x + 1 + i) x) (n - (x + 1)) + f n x) n := sumN_congr _ (fun i hi => by
      rw [show n + 1 - (i + 1) = (n - (i + 1)) + 1 by omega]
      show _ + f (i + 1 + (n - (i + 1))) i = _
      rw [show i + 1 + (n - (i + 1)) = n by omega])
    rw [e]
    have add : ∀ (u v : Nat → Int) (m : Nat), sumN (fun i => u i + v i) m = sumN u m + sumN v m := fun u v m => by
      induction m with
      | zero => rfl
      | succ m ih =>
        show sumN (fun i => u i + v i) m + (u m + v m) = sumN u m + u m + (sumN v m + v m)
        rw [ih]; omega
    rw [add]
    exact (Int.add_zero _).symm
/-- rounds: told alike for both -/
def roS (ro : List Int) : Prop := ∀ x y : Nat, x < 8 → y < 8 → gI ro (8 * (x : Int) + y) = gI ro (8 * (y : Int) + x) ∧ 1 ≤ gI ro (8 * (x : Int) + y) ∧ gI ro (8 * (x : Int) + y) ≤ 3
def paM (ro : List Int) (a : Nat) : Int := sumN (fun b => bI (1 < gI ro (8 * (a : Int) + b))) a
theorem paM_eq {n : Nat} {ro : List Int} (hn : n ≤ 8) (hr : roS ro) : sumN (paM ro) n = sumN (paR ro n) n := by
  have e := tri_swap (fun a b => bI (1 < gI ro (8 * (a : Int) + b))) n
  refine (show sumN (paM ro) n = _ from e).trans (sumN_congr _ (fun x hx => ?_))
  unfold paR
  rw [show (n - ((x : Int) + 1)).toNat = n - (x + 1) by omega]
  refine sumN_congr _ (fun i hi => bI_c ?_)
  have h1 := hr x (x + 1 + i) (by omega) (by omega)
  have e2 : chA ro x ((x : Int) + 1 + i) 1 = gI ro (8 * (x : Int) + ((x + 1 + i : Nat) : Int)) := by
    unfold chA
    rw [if_pos (by omega)]
    congr 1
    omega
  rw [e2]
  omega
theorem cntW {pl : List Int} {sz : Nat} (h8 : sz ≤ 8) (ht : ∀ y : Int, sz ≤ y → y < 8 → gI pl y = 8) : sumN (fun i => bI (gI pl i ≠ 8)) sz = cnt8 pl 0 8 := by
  unfold cnt8
  have e : sumN (fun i => bI (rd8 pl (0 + i) ≠ 8)) (8 - 0 : Int).toNat = sumN (fun i => bI (gI pl i ≠ 8)) 8 := sumN_congr _ (fun i hi => by
    have : i < 8 := hi
    unfold rd8
    rw [if_pos (by omega), Int.zero_add])
  rw [e]
  exact (sumN_tail 8 h8 (fun i h1 h2 => bI_f (fun z => z (ht i (by omega) (by omega))))).symm
theorem ms_count (d : Nat) {h : List mC} {g n sz : Nat} {ch ro pl wi : List Int} (hS : MS h g n sz ch ro pl wi) (hn : 2 ≤ n ∧ n ≤ 8) (hwt : ∀ x : Int, (sz : Int) - 1 ≤ x → x < 8 → rd8 wi x = 8) (hwv : v8 wi) (hpt : ∀ y : Int, sz ≤ y → y < 8 → gI pl y = 8) (hr : roS ro) {x : Int} : Rt (d + 3) mX4_count [mR g, mI x] h (some (mI (spCount n sz ro pl wi x))) h := by
  obtain ⟨wm, lf, rt, ws, rw, pt, wh, on, tw, wo, wt, il, dr, dn, hM, hwm, hil, hdr, hf0⟩ := id hS
  obtain ⟨m0, m1, mch, map, mpl, mwm, mlf, mrt, mws, mrw, mpt, mwh, mon, mtw, mdn, lch, lap, lpl, lwm, llf, lrt, lws, lrw, lpt, lwh, lon, ltw, ldn, m8⟩ := id hM
  have k2 : x = 2 → ∀ (j : Nat), j ≤ sz → ∀ (c y : Int) (u : mV), y = j → c = sumN (fun i => bI (gI pl i ≠ 8)) j → Wp (d + 3) mX4_count 48 [mR g, mI x, mI c, mI y, u] [] h (0, 0) (fun r' h' => r' = some (mI (spCount n sz ro pl wi x)) ∧ h' = h) := by
    intro hx2
    refine loop_up _ _ ?_ ?_
    · intro c y u hy hc
      refine wp_il3 (q := 49) dX4_count_48 rfl (wp_al0 (q := 50) dX4_count_49 rfl (wp_getf (q := 53) dX4_count_50 rfl f23 m0 m1 rfl (fun z => nomatch z) (wp_icmp_ge (t := 81) (q := 56) dX4_count_53 rfl rfl (fun c53 => ?_) (fun c53 => ?_))))
      · refine wp_il2 (q := 82) dX4_count_81 rfl (wp_iret dX4_count_82 rfl ?_)
        exact ⟨rI (by unfold spCount; rw [if_neg (by omega), if_neg (by omega), if_pos hx2, hc]; exact cntW (by omega) hpt), rfl⟩
      · exfalso; omega
    · intro j hj ih c y u hy hc
      have bo := sumB_in (p := fun i : Nat => gI pl i ≠ 8) j
      have e1 : sumN (fun i => bI (gI pl i ≠ 8)) (j + 1) = sumN (fun i => bI (gI pl i ≠ 8)) j + bI (gI pl j ≠ 8) := rfl
      rw [← hy, ← hc] at e1
      rw [← hc] at bo
      refine wp_il3 (q := 49) dX4_count_48 rfl (wp_al0 (q := 50) dX4_count_49 rfl (wp_getf (q := 53) dX4_count_50 rfl f23 m0 m1 rfl (fun z => nomatch z) (wp_icmp_ge (t := 81) (q := 56) dX4_count_53 rfl rfl (fun c53 => ?_) (fun c53 => ?_))))
      · exfalso; omega
      · refine wp_il2 (q := 57) dX4_count_56 rfl (wp_al0 (q := 58) dX4_count_57 rfl (wp_getf (q := 61) dX4_count_58 rfl f26 m0 m1 rfl (fun z => nomatch z) (wp_il3 (q := 62) dX4_count_61 rfl (wp_iaload (q := 63) dX4_count_62 rfl mpl (by omega) (by omega) (wp_bi (q := 65) dX4_count_63 rfl (by decide) (by decide) (wp_icmp_ne (t := 72) (q := 68) dX4_count_65 rfl rfl (fun c65 => ?_) (fun c65 => ?_)))))))
        · have c65 : gI pl y ≠ 8 := c65
          rw [bI_t c65] at e1
          refine wp_ic (q := 73) dX4_count_72 rfl (by decide) (by decide) (wp_iadd (q := 74) dX4_count_73 rfl (by omega) (by omega) (wp_is2 (q := 75) dX4_count_74 rfl rfl (wp_ii3 (q := 78) dX4_count_75 rfl rfl (by omega) (by omega) (wp_goto (q := 48) dX4_count_78 rfl ?_))))
          exact ih _ _ _ (by omega) (by omega)
        · have c65 : gI pl y = 8 := c65
          rw [bI_f (fun z => z c65)] at e1
          refine wp_ic (q := 69) dX4_count_68 rfl (by decide) (by decide) (wp_goto (q := 73) dX4_count_69 rfl (wp_iadd (q := 74) dX4_count_73 rfl (by omega) (by omega) (wp_is2 (q := 75) dX4_count_74 rfl rfl (wp_ii3 (q := 78) dX4_count_75 rfl rfl (by omega) (by omega) (wp_goto (q := 48) dX4_count_78 rfl ?_)))))
          exact ih _ _ _ (by omega) (by omega)
  have k5 : ∀ (a : Nat), a < n → ∀ (c0 : Int), 0 ≤ c0 → c0 ≤ 1000 → ∀ (y : Int), y = a → (∀ (c : Int) (u : mV), c = c0 + paM ro a → Wp (d + 3) mX4_count 137 [mR g, mI x, mI c, mI y, u] [] h (0, 0) (fun r' h' => r' = some (mI (spCount n sz ro pl wi x)) ∧ h' = h)) → ∀ (j : Nat), j ≤ a → ∀ (c z : Int), z = j → c = c0 + sumN (fun b => bI (1 < gI ro (8 * (a : Int) + b))) j → Wp (d + 3) mX4_count 101 [mR g, mI x, mI c, mI y, mI z] [] h (0, 0) (fun r' h' => r' = some (mI (spCount n sz ro pl wi x)) ∧ h' = h) := by
    intro a ha c0 h0 h1 y hy hK
    refine loop_up _ _ ?_ ?_
    · intro c z hz hc
      refine wp_il4 (q := 103) dX4_count_101 rfl (wp_il3 (q := 104) dX4_count_103 rfl (wp_icmp_ge (t := 137) (q := 107) dX4_count_104 rfl rfl (fun c104 => ?_) (fun c104 => ?_)))
      · exact hK _ _ hc
      · exfalso; omega
    · intro j hj ih c z hz hc
      have bo := sumB_in (p := fun b : Nat => 1 < gI ro (8 * (a : Int) + b)) j
      have e1 : sumN (fun b => bI (1 < gI ro (8 * (a : Int) + b))) (j + 1) = sumN (fun b => bI (1 < gI ro (8 * (a : Int) + b))) j + bI (1 < gI ro (8 * (a : Int) + j)) := rfl
      rw [← hz, ← hy] at e1
      rw [← hy] at hc bo
      refine wp_il4 (q := 103) dX4_count_101 rfl (wp_il3 (q := 104) dX4_count_103 rfl (wp_icmp_ge (t := 137) (q := 107) dX4_count_104 rfl rfl (fun c104 => ?_) (fun c104 => ?_)))
      · exfalso; omega
      · refine wp_il2 (q := 108) dX4_count_107 rfl (wp_al0 (q := 109) dX4_count_108 rfl (wp_getf (q := 112) dX4_count_109 rfl f25 m0 m1 rfl (fun z => nomatch z) (wp_bi (q := 114) dX4_count_112 rfl (by decide) (by decide) (wp_il3 (q := 115) dX4_count_114 rfl (wp_imul (q := 116) dX4_count_115 rfl (by omega) (by omega) (wp_il4 (q := 118) dX4_count_116 rfl (wp_iadd (q := 119) dX4_count_118 rfl (by omega) (by omega) (wp_iaload (q := 120) dX4_count_119 rfl map (by omega) (by omega) (wp_ic (q := 121) dX4_count_120 rfl (by decide) (by decide) (wp_icmp_le (t := 128) (q := 124) dX4_count_121 rfl rfl (fun c121 => ?_) (fun c121 => ?_)))))))))))
        · have c121 : gI ro (8 * y + z) ≤ 1 := c121
          rw [bI_f (by omega)] at e1
          refine wp_ic (q := 129) dX4_count_128 rfl (by decide) (by decide) (wp_iadd (q := 130) dX4_count_129 rfl (by omega) (by omega) (wp_is2 (q := 131) dX4_count_130 rfl rfl (wp_ii4 (q := 134) dX4_count_131 rfl rfl (by omega) (by omega) (wp_goto (q := 101) dX4_count_134 rfl ?_))))
          exact ih _ _ (by omega) (by rw [← hy]; omega)
        · have c121 : 1 < gI ro (8 * y + z) := c121
          rw [bI_t c121] at e1
          refine wp_ic (q := 125) dX4_count_124 rfl (by decide) (by decide) (wp_goto (q := 129) dX4_count_125 rfl (wp_iadd (q := 130) dX4_count_129 rfl (by omega) (by omega) (wp_is2 (q := 131) dX4_count_130 rfl rfl (wp_ii4 (q := 134) dX4_count_131 rfl rfl (by omega) (by omega) (wp_goto (q := 101) dX4_count_134 rfl ?_)))))
          exact ih _ _ (by omega) (by rw [← hy]; omega)
  have k4 : x = 4 → ∀ (j : Nat), j ≤ n → ∀ (c y : Int) (u : mV), y = j → c = sumN (paM ro) j → 0 ≤ c ∧ c ≤ 8 * (j : Int) → Wp (d + 3) mX4_count 90 [mR g, mI x, mI c, mI y, u] [] h (0, 0) (fun r' h' => r' = some (mI (spCount n sz ro pl wi x)) ∧ h' = h) := by
    intro hx4
    refine loop_up _ _ ?_ ?_
    · intro c y u hy hc hb
      refine wp_il3 (q := 91) dX4_count_90 rfl (wp_al0 (q := 92) dX4_count_91 rfl (wp_getf (q := 95) dX4_count_92 rfl f22 m0 m1 rfl (fun z => nomatch z) (wp_icmp_ge (t := 143) (q := 98) dX4_count_95 rfl rfl (fun c95 => ?_) (fun c95 => ?_))))
      · refine wp_il2 (q := 144) dX4_count_143 rfl (wp_iret dX4_count_144 rfl ?_)
        exact ⟨rI (by unfold spCount; rw [if_neg (by omega), if_neg (by omega), if_neg (by omega), if_neg (by omega), if_pos hx4, hc]; exact paM_eq (by omega) hr), rfl⟩
      · exfalso; omega
    · intro j hj ih c y u hy hc hb
      have bo := sumB_in (p := fun b : Nat => 1 < gI ro (8 * (j : Int) + b)) j
      have bo2 : 0 ≤ paM ro j ∧ paM ro j ≤ j := bo
      have e1 : sumN (paM ro) (j + 1) = sumN (paM ro) j + paM ro j := rfl
      rw [← hc] at e1
      have hK : ∀ (c1 : Int) (u : mV), c1 = c + paM ro j → Wp (d + 3) mX4_count 137 [mR g, mI x, mI c1, mI y, u] [] h (0, 0) (fun r' h' => r' = some (mI (spCount n sz ro pl wi x)) ∧ h' = h) := by
        intro c1 u hc1
        refine wp_ii3 (q := 140) dX4_count_137 rfl rfl (by omega) (by omega) (wp_goto (q := 90) dX4_count_140 rfl ?_)
        exact ih _ _ _ (by omega) (by omega) (by omega)
      refine wp_il3 (q := 91) dX4_count_90 rfl (wp_al0 (q := 92) dX4_count_91 rfl (wp_getf (q := 95) dX4_count_92 rfl f22 m0 m1 rfl (fun z => nomatch z) (wp_icmp_ge (t := 143) (q := 98) dX4_count_95 rfl rfl (fun c95 => ?_) (fun c95 => ?_))))
      · exfalso; omega
      · refine wp_ic (q := 99) dX4_count_98 rfl (by decide) (by decide) (wp_is4 (q := 101) dX4_count_99 rfl rfl ?_)
        exact k5 j hj c (by omega) (by omega) y hy hK 0 (Nat.zero_le _) c 0 rfl (by show c = c + 0; omega)
  show Wp _ mX4_count 0 [mR g, mI x, mU, mU, mU] [] h (0, 0) _
  refine wp_ic (q := 1) dX4_count_0 rfl (by decide) (by decide) (wp_is2 (q := 2) dX4_count_1 rfl rfl (wp_il1 (q := 3) dX4_count_2 rfl ?_))
  rcases (show x = 0 ∨ x = 1 ∨ x = 2 ∨ x = 3 ∨ x = 4 ∨ (x < 0 ∨ 4 < x) by omega) with rfl | rfl | rfl | rfl | rfl | hts
  · refine wp_tsi (off := 33) (t := 36) dX4_count_3 (by decide) (by decide) (by decide) rfl ?_
    refine wp_al0 (q := 37) dX4_count_36 rfl (wp_getf (q := 40) dX4_count_37 rfl f22 m0 m1 rfl (fun z => nomatch z) (wp_iret dX4_count_40 rfl ?_))
    exact ⟨rfl, rfl⟩
  · refine wp_tsi (off := 38) (t := 41) dX4_count_3 (by decide) (by decide) (by decide) rfl ?_
    refine wp_al0 (q := 42) dX4_count_41 rfl (wp_getf (q := 45) dX4_count_42 rfl f23 m0 m1 rfl (fun z => nomatch z) (wp_iret dX4_count_45 rfl ?_))
    exact ⟨rfl, rfl⟩
  · refine wp_tsi (off := 43) (t := 46) dX4_count_3 (by decide) (by decide) (by decide) rfl ?_
    refine wp_ic (q := 47) dX4_count_46 rfl (by decide) (by decide) (wp_is3 (q := 48) dX4_count_47 rfl rfl ?_)
    exact k2 rfl 0 (Nat.zero_le _) 0 0 mU rfl rfl
  · refine wp_tsi (off := 80) (t := 83) dX4_count_3 (by decide) (by decide) (by decide) rfl ?_
    refine wp_al0 (q := 84) dX4_count_83 rfl (wp_v0I (q := 87) dX4_count_84 rfl q142 (Nat.le_of_ble_eq_true rfl) rfl m0 m1 rfl rfl ((mt_decided 0 hM).up (by omega)) (wp_iret dX4_count_87 rfl ?_))
    exact ⟨rI (dcW m8 hwt hwv hwm), rfl⟩
  · refine wp_tsi (off := 85) (t := 88) dX4_count_3 (by decide) (by decide) (by decide) rfl ?_
    refine wp_ic (q := 89) dX4_count_88 rfl (by decide) (by decide) (wp_is3 (q := 90) dX4_count_89 rfl rfl ?_)
    exact k4 rfl 0 (Nat.zero_le _) 0 0 mU rfl rfl (by decide)
  · refine wp_tso (t := 145) dX4_count_3 hts rfl ?_
    refine wp_bi (q := 147) dX4_count_145 rfl (by decide) (by decide) (wp_iret dX4_count_147 rfl ?_)
    exact ⟨rI (by unfold spCount; rw [if_neg (by omega), if_neg (by omega), if_neg (by omega), if_neg (by omega), if_neg (by omega)]), rfl⟩
