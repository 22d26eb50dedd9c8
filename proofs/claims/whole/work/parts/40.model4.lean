/-! the model: spread (rows laid by wip/whole) -/
abbrev mk8 (x : Int) : Prop := 0 ≤ x ∧ x < 256
/-- what a match leaves of its two sides' sets -/
def wsF (ch : List Int) (l r : Nat) (w : Int) : Nat := if l = 0 ∨ r = 0 then l ||| r else if w ≠ -9 then 2 ^ w.toNat else beN ch l r ||| beN ch r l
/-- the set of a node: a place, or a match -/
def chdM (pl ws : List Int) (sz e : Int) : Int := if e < sz then ((bitA (gI pl e) : Nat) : Int) else gI ws (e - sz)
def SpW (sz : Int) (ch pl wm lf rt ws : List Int) (e : Int) : Prop := ∀ m : Int, 0 ≤ m → m < e → mk8 (gI lf m) ∧ mk8 (gI rt m) ∧ mk8 (gI ws m) ∧ gI lf m = chdM pl ws sz (2 * m) ∧ gI rt m = chdM pl ws sz (2 * m + 1) ∧ gI ws m = ((wsF ch (gI lf m).toNat (gI rt m).toNat (gI wm m) : Nat) : Int)
abbrev wmR (wm : List Int) : Prop := ∀ x : Int, 0 ≤ x → x < 7 → gI wm x = -9 ∨ (0 ≤ gI wm x ∧ gI wm x < 8)
theorem wsF_lt {ch : List Int} {l r : Nat} {w : Int} (hl : l < 256) (hr : r < 256) (hw : w = -9 ∨ (0 ≤ w ∧ w < 8)) : wsF ch l r w < 256 := by
  have b1 := mkM_lt (fun a => beB ch l r a 8) 8
  have b2 := mkM_lt (fun a => beB ch r l a 8) 8
  unfold wsF
  split
  · exact Nat.or_lt_two_pow (n := 8) hl hr
  · split
    · have : 2 ^ w.toNat ≤ 2 ^ 7 := Nat.pow_le_pow_right (by decide) (by omega)
      omega
    · exact Nat.or_lt_two_pow (n := 8) b1 b2
theorem rd_ix {sz m : Int} (hs : sz = 2 ∨ sz = 4 ∨ sz = 8) (h0 : 0 ≤ m) (h1 : m < sz - 1) : 1 ≤ rdO sz m ∧ rdO sz m ≤ lrA sz ∧ 0 ≤ fmA sz (rdO sz m) ∧ fmA sz (rdO sz m) ≤ 8 ∧ (rdO sz m = 1 → fmA sz (rdO sz m) = 0 ∧ 2 * m + 1 < sz) ∧ (rdO sz m ≠ 1 → fmA sz (rdO sz m - 1) + 2 * (m - fmA sz (rdO sz m)) = 2 * m - sz ∧ 0 ≤ fmA sz (rdO sz m - 1) ∧ fmA sz (rdO sz m - 1) ≤ 8 ∧ sz ≤ 2 * m ∧ 2 * m + 1 - sz < m) := by
  rcases (show (sz = 2 ∧ m = 0) ∨ (sz = 4 ∧ (m = 0 ∨ m = 1 ∨ m = 2)) ∨ (sz = 8 ∧ (m = 0 ∨ m = 1 ∨ m = 2 ∨ m = 3 ∨ m = 4 ∨ m = 5 ∨ m = 6)) by omega) with ⟨rfl, rfl⟩ | ⟨rfl, rfl | rfl | rfl⟩ | ⟨rfl, rfl | rfl | rfl | rfl | rfl | rfl | rfl⟩ <;> decide
theorem chdM_set {pl ws : List Int} {sz e x v : Int} (h0 : 0 ≤ x) (he : e < sz ∨ e - sz < x) : chdM pl (sI ws x v) sz e = chdM pl ws sz e := by
  unfold chdM
  split
  · rfl
  · exact gI_ne h0 (by omega) (by omega)
theorem SpW_step {sz x A B : Int} {W : Nat} {ch pl wm lf rt ws : List Int} (hs : sz = 2 ∨ sz = 4 ∨ sz = 8) (h : SpW sz ch pl wm lf rt ws x) (h0 : 0 ≤ x) (h1 : x < sz - 1) (hlf : lf.length = 7) (hrt : rt.length = 7) (hws : ws.length = 7) (hA : A = chdM pl ws sz (2 * x)) (hB : B = chdM pl ws sz (2 * x + 1)) (hW : W = wsF ch A.toNat B.toNat (gI wm x)) (kA : mk8 A) (kB : mk8 B) (kW : W < 256) : SpW sz ch pl wm (sI lf x A) (sI rt x B) (sI ws x (W : Int)) (x + 1) := by
  intro m m0 m1
  have hi := rd_ix hs (show 0 ≤ m from m0) (by omega : m < sz - 1)
  have c1 : chdM pl (sI ws x (W : Int)) sz (2 * m) = chdM pl ws sz (2 * m) := chdM_set h0 (by omega)
  have c2 : chdM pl (sI ws x (W : Int)) sz (2 * m + 1) = chdM pl ws sz (2 * m + 1) := chdM_set h0 (by omega)
  rw [c1, c2]
  by_cases e : m = x
  · subst e
    rw [gI_eq h0 (by omega), gI_eq h0 (by omega), gI_eq h0 (by omega), ← hW]
    exact ⟨kA, kB, ⟨by omega, by omega⟩, hA, hB, rfl⟩
  · rw [gI_ne h0 m0 (by omega), gI_ne h0 m0 (by omega), gI_ne h0 m0 (by omega)]
    exact h m m0 (by omega)
theorem chdM_k {sz : Int} {ch pl wm lf rt ws : List Int} {x e : Int} (h : SpW sz ch pl wm lf rt ws x) (hv : v8 pl) (h0 : 0 ≤ e) (he : e < sz ∨ e - sz < x) : mk8 (chdM pl ws sz e) := by
  unfold chdM
  split
  · have := bitA_lt (hv e).1 (hv e).2
    exact ⟨by omega, by omega⟩
  · exact (h (e - sz) (by omega) (by omega)).2.2.1
theorem mt_spread (d : Nat) {h : List mC} {g : Nat} {n sz : Int} {ch ap pl wm lf rt ws rw pt wh on tw : List Int} {wo wt il dr : Int} {dn : List Int} (hM : MU h g n sz ch ap pl wm lf rt ws rw pt wh on tw wo wt il dr dn) (hv : v8 pl) (hwr : wmR wm) : Ct (d + 2) mX4_spread [mR g] h (fun r9 h9 => r9 = none ∧ (∃ lf rt ws : List Int, MU h9 g n sz ch ap pl wm lf rt ws rw pt wh on tw wo wt il dr dn ∧ SpW sz ch pl wm lf rt ws (sz - 1)) ∧ ∀ j : Nat, (j < g ∨ g + 14 ≤ j) → h9[j]? = h[j]?) := by
  have key : ∀ j : Nat, j ≤ (sz - 1).toNat → ∀ (h1 : List mC) (lf rt ws : List Int) (x : Int) (u t : mV), x = j → MU h1 g n sz ch ap pl wm lf rt ws rw pt wh on tw wo wt il dr dn → SpW sz ch pl wm lf rt ws x → (∀ j : Nat, (j < g ∨ g + 14 ≤ j) → h1[j]? = h[j]?) → Wp (d + 2) mX4_spread 2 [mR g, mI x, u, t] [] h1 (0, 0) (fun r9 h9 => r9 = none ∧ (∃ lf rt ws : List Int, MU h9 g n sz ch ap pl wm lf rt ws rw pt wh on tw wo wt il dr dn ∧ SpW sz ch pl wm lf rt ws (sz - 1)) ∧ ∀ j : Nat, (j < g ∨ g + 14 ≤ j) → h9[j]? = h[j]?) := by
    refine loop_up _ _ ?_ ?_
    · intro h1 lf rt ws x u t hx hM hw hf
      obtain ⟨m0, m1, mch, map, mpl, mwm, mlf, mrt, mws, mrw, mpt, mwh, mon, mtw, mdn, lch, lap, lpl, lwm, llf, lrt, lws, lrw, lpt, lwh, lon, ltw, ldn, m8⟩ := id hM
      refine wp_il1 (q := 3) dX4_spread_2 rfl (wp_al0 (q := 4) dX4_spread_3 rfl (wp_getf (q := 7) dX4_spread_4 rfl f23 m0 m1 rfl (fun z => nomatch z) (wp_ic (q := 8) dX4_spread_7 rfl (by decide) (by decide) (wp_isub (q := 9) dX4_spread_8 rfl (by omega) (by omega) (wp_icmp_ge (t := 217) (q := 12) dX4_spread_9 rfl rfl (fun c9 => ?_) (fun c9 => ?_))))))
      · refine wp_vret dX4_spread_217 rfl ?_
        exact ⟨rfl, ⟨lf, rt, ws, hM, by rw [show sz - 1 = x by omega]; exact hw⟩, hf⟩
      · exfalso; omega
    · intro j hj ih h1 lf rt ws x u t hx hM hw hf
      obtain ⟨m0, m1, mch, map, mpl, mwm, mlf, mrt, mws, mrw, mpt, mwh, mon, mtw, mdn, lch, lap, lpl, lwm, llf, lrt, lws, lrw, lpt, lwh, lon, ltw, ldn, m8⟩ := id hM
      have hlr := lrA_in m8
      have hx0 : 0 ≤ x ∧ x < sz - 1 := by omega
      obtain ⟨i1, i2, i3, i4, i5', i6'⟩ := rd_ix m8 hx0.1 hx0.2
      have i5 := fun _ : Nat => i5'
      have i6 := fun _ : Nat => i6'
      have i7 := fun _ : Nat => (show 2 * x < sz ∨ 2 * x - sz < x by by_cases e : rdO sz x = 1 <;> omega)
      have i8 := fun _ : Nat => (show 2 * x + 1 < sz ∨ 2 * x + 1 - sz < x by by_cases e : rdO sz x = 1 <;> omega)
      clear i5' i6'
      have kA : mk8 (chdM pl ws sz (2 * x)) := chdM_k hw hv (by omega) (i7 0)
      have kB : mk8 (chdM pl ws sz (2 * x + 1)) := chdM_k hw hv (by omega) (i8 0)
      have hwx := fun _ : Nat => hwr x (by omega) (by omega)
      have gA1 : Nat → rdO sz x = 1 → 2 * (x - fmA sz (rdO sz x)) = 2 * x := fun _ z => by have := i5 0 z; omega
      have dA1 : Nat → rdO sz x = 1 → ((bitA (gI pl (2 * (x - fmA sz (rdO sz x)))) : Nat) : Int) = (chdM pl ws sz (2 * x)) := fun _ z => by rw [gA1 0 z]; unfold chdM; rw [if_pos (by have := i5 0 z; omega)]
      have dB1 : Nat → rdO sz x = 1 → ((bitA (gI pl (2 * (x - fmA sz (rdO sz x)) + 1)) : Nat) : Int) = (chdM pl ws sz (2 * x + 1)) := fun _ z => by rw [gA1 0 z]; unfold chdM; rw [if_pos (by have := i5 0 z; omega)]
      have dA2 : Nat → rdO sz x ≠ 1 → ws.getD (fmA sz (rdO sz x - 1) + 2 * (x - fmA sz (rdO sz x))).toNat 0 = (chdM pl ws sz (2 * x)) := fun _ z => by have := i6 0 z; rw [this.1]; unfold chdM; rw [if_neg (by omega)]; rfl
      have dB2 : Nat → rdO sz x ≠ 1 → ws.getD (fmA sz (rdO sz x - 1) + 2 * (x - fmA sz (rdO sz x)) + 1).toNat 0 = (chdM pl ws sz (2 * x + 1)) := fun _ z => by have := i6 0 z; rw [this.1]; unfold chdM; rw [if_neg (by omega), show 2 * x + 1 - sz = 2 * x - sz + 1 by omega]; rfl
      have eA : (sI lf x (chdM pl ws sz (2 * x))).getD x.toNat 0 = (((chdM pl ws sz (2 * x)).toNat : Nat) : Int) := (gI_eq hx0.1 (by omega)).trans (by omega)
      have eB : (sI rt x (chdM pl ws sz (2 * x + 1))).getD x.toNat 0 = (((chdM pl ws sz (2 * x + 1)).toNat : Nat) : Int) := (gI_eq hx0.1 (by omega)).trans (by omega)
      have hlf7 := llf
      have hrt7 := lrt
      have hws7 := lws
      have eW : wm.getD x.toNat 0 = gI wm x := rfl
      have ltA : (chdM pl ws sz (2 * x)).toNat < 256 := by omega
      have ltB : (chdM pl ws sz (2 * x + 1)).toNat < 256 := by omega
      have kW := wsF_lt (ch := ch) ltA ltB (hwx 0)
      have lB1 : beN ch (chdM pl ws sz (2 * x)).toNat (chdM pl ws sz (2 * x + 1)).toNat < 256 := mkM_lt _ 8
      have lB2 : beN ch (chdM pl ws sz (2 * x + 1)).toNat (chdM pl ws sz (2 * x)).toNat < 256 := mkM_lt _ 8
      have w1 : Nat → ((chdM pl ws sz (2 * x)).toNat = 0 ∨ (chdM pl ws sz (2 * x + 1)).toNat = 0) → mOr ((chdM pl ws sz (2 * x)).toNat : Nat) ((chdM pl ws sz (2 * x + 1)).toNat : Nat) = ((wsF ch (chdM pl ws sz (2 * x)).toNat (chdM pl ws sz (2 * x + 1)).toNat (gI wm x) : Nat) : Int) := fun _ z => by rw [mOr_nat ltA ltB]; unfold wsF; rw [if_pos z]
      have w2 : Nat → ¬ ((chdM pl ws sz (2 * x)).toNat = 0 ∨ (chdM pl ws sz (2 * x + 1)).toNat = 0) → gI wm x ≠ -9 → mShl 1 (gI wm x) = ((wsF ch (chdM pl ws sz (2 * x)).toNat (chdM pl ws sz (2 * x + 1)).toNat (gI wm x) : Nat) : Int) := fun _ z z2 => by
        unfold wsF; rw [if_neg z, if_pos z2]
        obtain ⟨q, hq⟩ := Int.eq_ofNat_of_zero_le (show 0 ≤ gI wm x by have := hwx 0; omega)
        rw [hq]
        exact shlB q (by have := hwx 0; omega)
      have w3 : Nat → ¬ ((chdM pl ws sz (2 * x)).toNat = 0 ∨ (chdM pl ws sz (2 * x + 1)).toNat = 0) → gI wm x = -9 → mOr (beN ch (chdM pl ws sz (2 * x)).toNat (chdM pl ws sz (2 * x + 1)).toNat : Nat) (beN ch (chdM pl ws sz (2 * x + 1)).toNat (chdM pl ws sz (2 * x)).toNat : Nat) = ((wsF ch (chdM pl ws sz (2 * x)).toNat (chdM pl ws sz (2 * x + 1)).toNat (gI wm x) : Nat) : Int) := fun _ z z2 => by rw [mOr_nat lB1 lB2]; unfold wsF; rw [if_neg z, if_neg (fun z3 => z3 z2)]
      refine wp_il1 (q := 3) dX4_spread_2 rfl (wp_al0 (q := 4) dX4_spread_3 rfl (wp_getf (q := 7) dX4_spread_4 rfl f23 m0 m1 rfl (fun z => nomatch z) (wp_ic (q := 8) dX4_spread_7 rfl (by decide) (by decide) (wp_isub (q := 9) dX4_spread_8 rfl (by omega) (by omega) (wp_icmp_ge (t := 217) (q := 12) dX4_spread_9 rfl rfl (fun c9 => ?_) (fun c9 => ?_))))))
      · exfalso; omega
      · refine wp_al0 (q := 13) dX4_spread_12 rfl (wp_il1 (q := 14) dX4_spread_13 rfl (wp_v1I (q := 17) dX4_spread_14 rfl q134 (Nat.le_of_ble_eq_true rfl) rfl m0 m1 rfl rfl ((mt_roundOf 0 hM (by omega) (by omega)).up (by omega)) (wp_is2 (q := 18) dX4_spread_17 rfl rfl (wp_il1 (q := 19) dX4_spread_18 rfl (wp_al0 (q := 20) dX4_spread_19 rfl (wp_il2 (q := 21) dX4_spread_20 rfl (wp_v1I (q := 24) dX4_spread_21 rfl q136 (Nat.le_of_ble_eq_true rfl) rfl m0 m1 rfl rfl ((mt_startOf 0 hM i1 i2).up (by omega)) (wp_isub (q := 25) dX4_spread_24 rfl (by omega) (by omega) (wp_is3 (q := 26) dX4_spread_25 rfl rfl (wp_al0 (q := 27) dX4_spread_26 rfl (wp_getf (q := 30) dX4_spread_27 rfl f28 m0 m1 rfl (fun z => nomatch z) (wp_il1 (q := 31) dX4_spread_30 rfl (wp_il2 (q := 32) dX4_spread_31 rfl ?_)))))))))))))
        refine wp_ic (q := 33) dX4_spread_32 rfl (by decide) (by decide) (wp_icmp_ne (t := 46) (q := 36) dX4_spread_33 rfl rfl (fun c33 => ?_) (fun c33 => ?_))
        · have j6 := i6 0 c33
          refine wp_al0 (q := 47) dX4_spread_46 rfl (wp_getf (q := 50) dX4_spread_47 rfl f30 m0 m1 rfl (fun z => nomatch z) (wp_al0 (q := 51) dX4_spread_50 rfl (wp_il2 (q := 52) dX4_spread_51 rfl (wp_ic (q := 53) dX4_spread_52 rfl (by decide) (by decide) (wp_isub (q := 54) dX4_spread_53 rfl (by omega) (by omega) (wp_v1I (q := 57) dX4_spread_54 rfl q136 (Nat.le_of_ble_eq_true rfl) rfl m0 m1 rfl rfl ((mt_startOf 0 hM (by omega) (by omega)).up (by omega)) (wp_ic (q := 58) dX4_spread_57 rfl (by decide) (by decide) (wp_il3 (q := 59) dX4_spread_58 rfl (wp_imul (q := 60) dX4_spread_59 rfl (by omega) (by omega) (wp_iadd (q := 61) dX4_spread_60 rfl (by omega) (by omega) (wp_iaload (q := 62) dX4_spread_61 rfl mws (by omega) (by omega) ?_)))))))))))
          rw [dA2 0 c33]
          refine wp_iastore (q := 63) dX4_spread_62 rfl (by omega) mlf (by omega) (by omega) ?_
          have hM := hM.sLf (x := sI lf x (chdM pl ws sz (2 * x))) ((sI_len _ _ _).trans hlf7)
          obtain ⟨m0, m1, mch, map, mpl, mwm, mlf, mrt, mws, mrw, mpt, mwh, mon, mtw, mdn, lch, lap, lpl, lwm, llf, lrt, lws, lrw, lpt, lwh, lon, ltw, ldn, m8⟩ := id hM
          refine wp_al0 (q := 64) dX4_spread_63 rfl (wp_getf (q := 67) dX4_spread_64 rfl f29 m0 m1 rfl (fun z => nomatch z) (wp_il1 (q := 68) dX4_spread_67 rfl (wp_il2 (q := 69) dX4_spread_68 rfl (wp_ic (q := 70) dX4_spread_69 rfl (by decide) (by decide) (wp_icmp_ne (t := 85) (q := 73) dX4_spread_70 rfl rfl (fun c70 => ?_) (fun c70 => ?_))))))
          · have j6 := i6 0 c70
            refine wp_al0 (q := 86) dX4_spread_85 rfl (wp_getf (q := 89) dX4_spread_86 rfl f30 m0 m1 rfl (fun z => nomatch z) (wp_al0 (q := 90) dX4_spread_89 rfl (wp_il2 (q := 91) dX4_spread_90 rfl (wp_ic (q := 92) dX4_spread_91 rfl (by decide) (by decide) (wp_isub (q := 93) dX4_spread_92 rfl (by omega) (by omega) (wp_v1I (q := 96) dX4_spread_93 rfl q136 (Nat.le_of_ble_eq_true rfl) rfl m0 m1 rfl rfl ((mt_startOf 0 hM (by omega) (by omega)).up (by omega)) (wp_ic (q := 97) dX4_spread_96 rfl (by decide) (by decide) (wp_il3 (q := 98) dX4_spread_97 rfl (wp_imul (q := 99) dX4_spread_98 rfl (by omega) (by omega) (wp_iadd (q := 100) dX4_spread_99 rfl (by omega) (by omega) (wp_ic (q := 101) dX4_spread_100 rfl (by decide) (by decide) (wp_iadd (q := 102) dX4_spread_101 rfl (by omega) (by omega) (wp_iaload (q := 103) dX4_spread_102 rfl mws (by omega) (by omega) ?_)))))))))))))
            rw [dB2 0 c70]
            refine wp_iastore (q := 104) dX4_spread_103 rfl (by omega) mrt (by omega) (by omega) ?_
            have hM := hM.sRt (x := sI rt x (chdM pl ws sz (2 * x + 1))) ((sI_len _ _ _).trans hrt7)
            obtain ⟨m0, m1, mch, map, mpl, mwm, mlf, mrt, mws, mrw, mpt, mwh, mon, mtw, mdn, lch, lap, lpl, lwm, llf, lrt, lws, lrw, lpt, lwh, lon, ltw, ldn, m8⟩ := id hM
            refine wp_al0 (q := 105) dX4_spread_104 rfl (wp_getf (q := 108) dX4_spread_105 rfl f28 m0 m1 rfl (fun z => nomatch z) (wp_il1 (q := 109) dX4_spread_108 rfl (wp_iaload (q := 110) dX4_spread_109 rfl mlf (by omega) (by omega) ?_)))
            rw [eA]
            refine wp_if_eq (t := 122) (q := 113) dX4_spread_110 rfl rfl (fun c110 => ?_) (fun c110 => ?_)
            · refine wp_al0 (q := 123) dX4_spread_122 rfl (wp_getf (q := 126) dX4_spread_123 rfl f30 m0 m1 rfl (fun z => nomatch z) (wp_il1 (q := 127) dX4_spread_126 rfl (wp_al0 (q := 128) dX4_spread_127 rfl (wp_getf (q := 131) dX4_spread_128 rfl f28 m0 m1 rfl (fun z => nomatch z) (wp_il1 (q := 132) dX4_spread_131 rfl (wp_iaload (q := 133) dX4_spread_132 rfl mlf (by omega) (by omega) ?_))))))
              rw [eA]
              refine wp_al0 (q := 134) dX4_spread_133 rfl (wp_getf (q := 137) dX4_spread_134 rfl f29 m0 m1 rfl (fun z => nomatch z) (wp_il1 (q := 138) dX4_spread_137 rfl (wp_iaload (q := 139) dX4_spread_138 rfl mrt (by omega) (by omega) ?_)))
              rw [eB]
              refine wp_ior _ (q := 140) dX4_spread_139 rfl rfl ?_
              rw [w1 0 (by omega)]
              refine wp_iastore (q := 141) dX4_spread_140 rfl (by omega) mws (by omega) (by omega) ?_
              have hM := hM.sWs (x := sI ws x ((wsF ch (chdM pl ws sz (2 * x)).toNat (chdM pl ws sz (2 * x + 1)).toNat (gI wm x) : Nat) : Int)) ((sI_len _ _ _).trans hws7)
              obtain ⟨m0, m1, mch, map, mpl, mwm, mlf, mrt, mws, mrw, mpt, mwh, mon, mtw, mdn, lch, lap, lpl, lwm, llf, lrt, lws, lrw, lpt, lwh, lon, ltw, ldn, m8⟩ := id hM
              refine wp_goto (q := 211) dX4_spread_141 rfl (wp_ii1 (q := 214) dX4_spread_211 rfl rfl (by omega) (by omega) (wp_goto (q := 2) dX4_spread_214 rfl ?_))
              exact ih _ _ _ _ _ _ _ (by omega) hM (SpW_step m8 hw hx0.1 hx0.2 hlf7 hrt7 hws7 rfl rfl rfl kA kB kW) (fun j hj => by rw [fr_set (by omega), fr_set (by omega), fr_set (by omega)]; exact hf j hj)
            · refine wp_al0 (q := 114) dX4_spread_113 rfl (wp_getf (q := 117) dX4_spread_114 rfl f29 m0 m1 rfl (fun z => nomatch z) (wp_il1 (q := 118) dX4_spread_117 rfl (wp_iaload (q := 119) dX4_spread_118 rfl mrt (by omega) (by omega) ?_)))
              rw [eB]
              refine wp_if_ne (t := 144) (q := 122) dX4_spread_119 rfl rfl (fun c119 => ?_) (fun c119 => ?_)
              · refine wp_al0 (q := 145) dX4_spread_144 rfl (wp_getf (q := 148) dX4_spread_145 rfl f27 m0 m1 rfl (fun z => nomatch z) (wp_il1 (q := 149) dX4_spread_148 rfl (wp_iaload (q := 150) dX4_spread_149 rfl mwm (by omega) (by omega) (wp_bi (q := 152) dX4_spread_150 rfl (by decide) (by decide) (wp_icmp_eq (t := 172) (q := 155) dX4_spread_152 rfl rfl (fun c152 => ?_) (fun c152 => ?_))))))
                · have c152 : gI wm x = -9 := c152
                  refine wp_al0 (q := 173) dX4_spread_172 rfl (wp_getf (q := 176) dX4_spread_173 rfl f30 m0 m1 rfl (fun z => nomatch z) (wp_il1 (q := 177) dX4_spread_176 rfl (wp_al0 (q := 178) dX4_spread_177 rfl (wp_al0 (q := 179) dX4_spread_178 rfl (wp_getf (q := 182) dX4_spread_179 rfl f28 m0 m1 rfl (fun z => nomatch z) (wp_il1 (q := 183) dX4_spread_182 rfl (wp_iaload (q := 184) dX4_spread_183 rfl mlf (by omega) (by omega) ?_)))))))
                  rw [eA]
                  refine wp_al0 (q := 185) dX4_spread_184 rfl (wp_getf (q := 188) dX4_spread_185 rfl f29 m0 m1 rfl (fun z => nomatch z) (wp_il1 (q := 189) dX4_spread_188 rfl (wp_iaload (q := 190) dX4_spread_189 rfl mrt (by omega) (by omega) ?_)))
                  rw [eB]
                  refine wp_v2I (q := 193) dX4_spread_190 rfl q138 (Nat.le_of_ble_eq_true rfl) rfl m0 m1 rfl rfl ((mt_beaters 0 hM ltA ltB).up (by omega)) (wp_al0 (q := 194) dX4_spread_193 rfl (wp_al0 (q := 195) dX4_spread_194 rfl (wp_getf (q := 198) dX4_spread_195 rfl f29 m0 m1 rfl (fun z => nomatch z) (wp_il1 (q := 199) dX4_spread_198 rfl (wp_iaload (q := 200) dX4_spread_199 rfl mrt (by omega) (by omega) ?_)))))
                  rw [eB]
                  refine wp_al0 (q := 201) dX4_spread_200 rfl (wp_getf (q := 204) dX4_spread_201 rfl f28 m0 m1 rfl (fun z => nomatch z) (wp_il1 (q := 205) dX4_spread_204 rfl (wp_iaload (q := 206) dX4_spread_205 rfl mlf (by omega) (by omega) ?_)))
                  rw [eA]
                  refine wp_v2I (q := 209) dX4_spread_206 rfl q138 (Nat.le_of_ble_eq_true rfl) rfl m0 m1 rfl rfl ((mt_beaters 0 hM ltB ltA).up (by omega)) (wp_ior _ (q := 210) dX4_spread_209 rfl rfl ?_)
                  rw [w3 0 (by omega) c152]
                  refine wp_iastore (q := 211) dX4_spread_210 rfl (by omega) mws (by omega) (by omega) ?_
                  have hM := hM.sWs (x := sI ws x ((wsF ch (chdM pl ws sz (2 * x)).toNat (chdM pl ws sz (2 * x + 1)).toNat (gI wm x) : Nat) : Int)) ((sI_len _ _ _).trans hws7)
                  obtain ⟨m0, m1, mch, map, mpl, mwm, mlf, mrt, mws, mrw, mpt, mwh, mon, mtw, mdn, lch, lap, lpl, lwm, llf, lrt, lws, lrw, lpt, lwh, lon, ltw, ldn, m8⟩ := id hM
                  refine wp_ii1 (q := 214) dX4_spread_211 rfl rfl (by omega) (by omega) (wp_goto (q := 2) dX4_spread_214 rfl ?_)
                  exact ih _ _ _ _ _ _ _ (by omega) hM (SpW_step m8 hw hx0.1 hx0.2 hlf7 hrt7 hws7 rfl rfl rfl kA kB kW) (fun j hj => by rw [fr_set (by omega), fr_set (by omega), fr_set (by omega)]; exact hf j hj)
                · have c152 : gI wm x ≠ -9 := c152
                  refine wp_al0 (q := 156) dX4_spread_155 rfl (wp_getf (q := 159) dX4_spread_156 rfl f30 m0 m1 rfl (fun z => nomatch z) (wp_il1 (q := 160) dX4_spread_159 rfl (wp_ic (q := 161) dX4_spread_160 rfl (by decide) (by decide) (wp_al0 (q := 162) dX4_spread_161 rfl (wp_getf (q := 165) dX4_spread_162 rfl f27 m0 m1 rfl (fun z => nomatch z) (wp_il1 (q := 166) dX4_spread_165 rfl (wp_iaload (q := 167) dX4_spread_166 rfl mwm (by omega) (by omega) (wp_ishl _ (q := 168) dX4_spread_167 rfl rfl ?_))))))))
                  rw [eW, w2 0 (by omega) c152]
                  refine wp_iastore (q := 169) dX4_spread_168 rfl (by omega) mws (by omega) (by omega) ?_
                  have hM := hM.sWs (x := sI ws x ((wsF ch (chdM pl ws sz (2 * x)).toNat (chdM pl ws sz (2 * x + 1)).toNat (gI wm x) : Nat) : Int)) ((sI_len _ _ _).trans hws7)
                  obtain ⟨m0, m1, mch, map, mpl, mwm, mlf, mrt, mws, mrw, mpt, mwh, mon, mtw, mdn, lch, lap, lpl, lwm, llf, lrt, lws, lrw, lpt, lwh, lon, ltw, ldn, m8⟩ := id hM
                  refine wp_goto (q := 211) dX4_spread_169 rfl (wp_ii1 (q := 214) dX4_spread_211 rfl rfl (by omega) (by omega) (wp_goto (q := 2) dX4_spread_214 rfl ?_))
                  exact ih _ _ _ _ _ _ _ (by omega) hM (SpW_step m8 hw hx0.1 hx0.2 hlf7 hrt7 hws7 rfl rfl rfl kA kB kW) (fun j hj => by rw [fr_set (by omega), fr_set (by omega), fr_set (by omega)]; exact hf j hj)
              · refine wp_al0 (q := 123) dX4_spread_122 rfl (wp_getf (q := 126) dX4_spread_123 rfl f30 m0 m1 rfl (fun z => nomatch z) (wp_il1 (q := 127) dX4_spread_126 rfl (wp_al0 (q := 128) dX4_spread_127 rfl (wp_getf (q := 131) dX4_spread_128 rfl f28 m0 m1 rfl (fun z => nomatch z) (wp_il1 (q := 132) dX4_spread_131 rfl (wp_iaload (q := 133) dX4_spread_132 rfl mlf (by omega) (by omega) ?_))))))
                rw [eA]
                refine wp_al0 (q := 134) dX4_spread_133 rfl (wp_getf (q := 137) dX4_spread_134 rfl f29 m0 m1 rfl (fun z => nomatch z) (wp_il1 (q := 138) dX4_spread_137 rfl (wp_iaload (q := 139) dX4_spread_138 rfl mrt (by omega) (by omega) ?_)))
                rw [eB]
                refine wp_ior _ (q := 140) dX4_spread_139 rfl rfl ?_
                rw [w1 0 (by omega)]
                refine wp_iastore (q := 141) dX4_spread_140 rfl (by omega) mws (by omega) (by omega) ?_
                have hM := hM.sWs (x := sI ws x ((wsF ch (chdM pl ws sz (2 * x)).toNat (chdM pl ws sz (2 * x + 1)).toNat (gI wm x) : Nat) : Int)) ((sI_len _ _ _).trans hws7)
                obtain ⟨m0, m1, mch, map, mpl, mwm, mlf, mrt, mws, mrw, mpt, mwh, mon, mtw, mdn, lch, lap, lpl, lwm, llf, lrt, lws, lrw, lpt, lwh, lon, ltw, ldn, m8⟩ := id hM
                refine wp_goto (q := 211) dX4_spread_141 rfl (wp_ii1 (q := 214) dX4_spread_211 rfl rfl (by omega) (by omega) (wp_goto (q := 2) dX4_spread_214 rfl ?_))
                exact ih _ _ _ _ _ _ _ (by omega) hM (SpW_step m8 hw hx0.1 hx0.2 hlf7 hrt7 hws7 rfl rfl rfl kA kB kW) (fun j hj => by rw [fr_set (by omega), fr_set (by omega), fr_set (by omega)]; exact hf j hj)
          · have j5 := i5 0 c70
            have j1 := gA1 0 c70
            refine wp_al0 (q := 74) dX4_spread_73 rfl (wp_ic (q := 75) dX4_spread_74 rfl (by decide) (by decide) (wp_il3 (q := 76) dX4_spread_75 rfl (wp_imul (q := 77) dX4_spread_76 rfl (by omega) (by omega) (wp_ic (q := 78) dX4_spread_77 rfl (by decide) (by decide) (wp_iadd (q := 79) dX4_spread_78 rfl (by omega) (by omega) (wp_v1I (q := 82) dX4_spread_79 rfl q137 (Nat.le_of_ble_eq_true rfl) rfl m0 m1 rfl rfl (by have z := (mt_bit 0 hM hv (x := 2 * (x - fmA sz (rdO sz x)) + 1) (by omega) (by omega)).up (D := d + 1) (by omega); rw [dB1 0 c70] at z; exact z) (wp_goto (q := 103) dX4_spread_82 rfl (wp_iastore (q := 104) dX4_spread_103 rfl (by omega) mrt (by omega) (by omega) ?_))))))))
            have hM := hM.sRt (x := sI rt x (chdM pl ws sz (2 * x + 1))) ((sI_len _ _ _).trans hrt7)
            obtain ⟨m0, m1, mch, map, mpl, mwm, mlf, mrt, mws, mrw, mpt, mwh, mon, mtw, mdn, lch, lap, lpl, lwm, llf, lrt, lws, lrw, lpt, lwh, lon, ltw, ldn, m8⟩ := id hM
            refine wp_al0 (q := 105) dX4_spread_104 rfl (wp_getf (q := 108) dX4_spread_105 rfl f28 m0 m1 rfl (fun z => nomatch z) (wp_il1 (q := 109) dX4_spread_108 rfl (wp_iaload (q := 110) dX4_spread_109 rfl mlf (by omega) (by omega) ?_)))
            rw [eA]
            refine wp_if_eq (t := 122) (q := 113) dX4_spread_110 rfl rfl (fun c110 => ?_) (fun c110 => ?_)
            · refine wp_al0 (q := 123) dX4_spread_122 rfl (wp_getf (q := 126) dX4_spread_123 rfl f30 m0 m1 rfl (fun z => nomatch z) (wp_il1 (q := 127) dX4_spread_126 rfl (wp_al0 (q := 128) dX4_spread_127 rfl (wp_getf (q := 131) dX4_spread_128 rfl f28 m0 m1 rfl (fun z => nomatch z) (wp_il1 (q := 132) dX4_spread_131 rfl (wp_iaload (q := 133) dX4_spread_132 rfl mlf (by omega) (by omega) ?_))))))
              rw [eA]
              refine wp_al0 (q := 134) dX4_spread_133 rfl (wp_getf (q := 137) dX4_spread_134 rfl f29 m0 m1 rfl (fun z => nomatch z) (wp_il1 (q := 138) dX4_spread_137 rfl (wp_iaload (q := 139) dX4_spread_138 rfl mrt (by omega) (by omega) ?_)))
              rw [eB]
              refine wp_ior _ (q := 140) dX4_spread_139 rfl rfl ?_
              rw [w1 0 (by omega)]
              refine wp_iastore (q := 141) dX4_spread_140 rfl (by omega) mws (by omega) (by omega) ?_
              have hM := hM.sWs (x := sI ws x ((wsF ch (chdM pl ws sz (2 * x)).toNat (chdM pl ws sz (2 * x + 1)).toNat (gI wm x) : Nat) : Int)) ((sI_len _ _ _).trans hws7)
              obtain ⟨m0, m1, mch, map, mpl, mwm, mlf, mrt, mws, mrw, mpt, mwh, mon, mtw, mdn, lch, lap, lpl, lwm, llf, lrt, lws, lrw, lpt, lwh, lon, ltw, ldn, m8⟩ := id hM
              refine wp_goto (q := 211) dX4_spread_141 rfl (wp_ii1 (q := 214) dX4_spread_211 rfl rfl (by omega) (by omega) (wp_goto (q := 2) dX4_spread_214 rfl ?_))
              exact ih _ _ _ _ _ _ _ (by omega) hM (SpW_step m8 hw hx0.1 hx0.2 hlf7 hrt7 hws7 rfl rfl rfl kA kB kW) (fun j hj => by rw [fr_set (by omega), fr_set (by omega), fr_set (by omega)]; exact hf j hj)
            · refine wp_al0 (q := 114) dX4_spread_113 rfl (wp_getf (q := 117) dX4_spread_114 rfl f29 m0 m1 rfl (fun z => nomatch z) (wp_il1 (q := 118) dX4_spread_117 rfl (wp_iaload (q := 119) dX4_spread_118 rfl mrt (by omega) (by omega) ?_)))
              rw [eB]
              refine wp_if_ne (t := 144) (q := 122) dX4_spread_119 rfl rfl (fun c119 => ?_) (fun c119 => ?_)
              · refine wp_al0 (q := 145) dX4_spread_144 rfl (wp_getf (q := 148) dX4_spread_145 rfl f27 m0 m1 rfl (fun z => nomatch z) (wp_il1 (q := 149) dX4_spread_148 rfl (wp_iaload (q := 150) dX4_spread_149 rfl mwm (by omega) (by omega) (wp_bi (q := 152) dX4_spread_150 rfl (by decide) (by decide) (wp_icmp_eq (t := 172) (q := 155) dX4_spread_152 rfl rfl (fun c152 => ?_) (fun c152 => ?_))))))
                · have c152 : gI wm x = -9 := c152
                  refine wp_al0 (q := 173) dX4_spread_172 rfl (wp_getf (q := 176) dX4_spread_173 rfl f30 m0 m1 rfl (fun z => nomatch z) (wp_il1 (q := 177) dX4_spread_176 rfl (wp_al0 (q := 178) dX4_spread_177 rfl (wp_al0 (q := 179) dX4_spread_178 rfl (wp_getf (q := 182) dX4_spread_179 rfl f28 m0 m1 rfl (fun z => nomatch z) (wp_il1 (q := 183) dX4_spread_182 rfl (wp_iaload (q := 184) dX4_spread_183 rfl mlf (by omega) (by omega) ?_)))))))
                  rw [eA]
                  refine wp_al0 (q := 185) dX4_spread_184 rfl (wp_getf (q := 188) dX4_spread_185 rfl f29 m0 m1 rfl (fun z => nomatch z) (wp_il1 (q := 189) dX4_spread_188 rfl (wp_iaload (q := 190) dX4_spread_189 rfl mrt (by omega) (by omega) ?_)))
                  rw [eB]
                  refine wp_v2I (q := 193) dX4_spread_190 rfl q138 (Nat.le_of_ble_eq_true rfl) rfl m0 m1 rfl rfl ((mt_beaters 0 hM ltA ltB).up (by omega)) (wp_al0 (q := 194) dX4_spread_193 rfl (wp_al0 (q := 195) dX4_spread_194 rfl (wp_getf (q := 198) dX4_spread_195 rfl f29 m0 m1 rfl (fun z => nomatch z) (wp_il1 (q := 199) dX4_spread_198 rfl (wp_iaload (q := 200) dX4_spread_199 rfl mrt (by omega) (by omega) ?_)))))
                  rw [eB]
                  refine wp_al0 (q := 201) dX4_spread_200 rfl (wp_getf (q := 204) dX4_spread_201 rfl f28 m0 m1 rfl (fun z => nomatch z) (wp_il1 (q := 205) dX4_spread_204 rfl (wp_iaload (q := 206) dX4_spread_205 rfl mlf (by omega) (by omega) ?_)))
                  rw [eA]
                  refine wp_v2I (q := 209) dX4_spread_206 rfl q138 (Nat.le_of_ble_eq_true rfl) rfl m0 m1 rfl rfl ((mt_beaters 0 hM ltB ltA).up (by omega)) (wp_ior _ (q := 210) dX4_spread_209 rfl rfl ?_)
                  rw [w3 0 (by omega) c152]
                  refine wp_iastore (q := 211) dX4_spread_210 rfl (by omega) mws (by omega) (by omega) ?_
                  have hM := hM.sWs (x := sI ws x ((wsF ch (chdM pl ws sz (2 * x)).toNat (chdM pl ws sz (2 * x + 1)).toNat (gI wm x) : Nat) : Int)) ((sI_len _ _ _).trans hws7)
                  obtain ⟨m0, m1, mch, map, mpl, mwm, mlf, mrt, mws, mrw, mpt, mwh, mon, mtw, mdn, lch, lap, lpl, lwm, llf, lrt, lws, lrw, lpt, lwh, lon, ltw, ldn, m8⟩ := id hM
                  refine wp_ii1 (q := 214) dX4_spread_211 rfl rfl (by omega) (by omega) (wp_goto (q := 2) dX4_spread_214 rfl ?_)
                  exact ih _ _ _ _ _ _ _ (by omega) hM (SpW_step m8 hw hx0.1 hx0.2 hlf7 hrt7 hws7 rfl rfl rfl kA kB kW) (fun j hj => by rw [fr_set (by omega), fr_set (by omega), fr_set (by omega)]; exact hf j hj)
                · have c152 : gI wm x ≠ -9 := c152
                  refine wp_al0 (q := 156) dX4_spread_155 rfl (wp_getf (q := 159) dX4_spread_156 rfl f30 m0 m1 rfl (fun z => nomatch z) (wp_il1 (q := 160) dX4_spread_159 rfl (wp_ic (q := 161) dX4_spread_160 rfl (by decide) (by decide) (wp_al0 (q := 162) dX4_spread_161 rfl (wp_getf (q := 165) dX4_spread_162 rfl f27 m0 m1 rfl (fun z => nomatch z) (wp_il1 (q := 166) dX4_spread_165 rfl (wp_iaload (q := 167) dX4_spread_166 rfl mwm (by omega) (by omega) (wp_ishl _ (q := 168) dX4_spread_167 rfl rfl ?_))))))))
                  rw [eW, w2 0 (by omega) c152]
                  refine wp_iastore (q := 169) dX4_spread_168 rfl (by omega) mws (by omega) (by omega) ?_
                  have hM := hM.sWs (x := sI ws x ((wsF ch (chdM pl ws sz (2 * x)).toNat (chdM pl ws sz (2 * x + 1)).toNat (gI wm x) : Nat) : Int)) ((sI_len _ _ _).trans hws7)
                  obtain ⟨m0, m1, mch, map, mpl, mwm, mlf, mrt, mws, mrw, mpt, mwh, mon, mtw, mdn, lch, lap, lpl, lwm, llf, lrt, lws, lrw, lpt, lwh, lon, ltw, ldn, m8⟩ := id hM
                  refine wp_goto (q := 211) dX4_spread_169 rfl (wp_ii1 (q := 214) dX4_spread_211 rfl rfl (by omega) (by omega) (wp_goto (q := 2) dX4_spread_214 rfl ?_))
                  exact ih _ _ _ _ _ _ _ (by omega) hM (SpW_step m8 hw hx0.1 hx0.2 hlf7 hrt7 hws7 rfl rfl rfl kA kB kW) (fun j hj => by rw [fr_set (by omega), fr_set (by omega), fr_set (by omega)]; exact hf j hj)
              · refine wp_al0 (q := 123) dX4_spread_122 rfl (wp_getf (q := 126) dX4_spread_123 rfl f30 m0 m1 rfl (fun z => nomatch z) (wp_il1 (q := 127) dX4_spread_126 rfl (wp_al0 (q := 128) dX4_spread_127 rfl (wp_getf (q := 131) dX4_spread_128 rfl f28 m0 m1 rfl (fun z => nomatch z) (wp_il1 (q := 132) dX4_spread_131 rfl (wp_iaload (q := 133) dX4_spread_132 rfl mlf (by omega) (by omega) ?_))))))
                rw [eA]
                refine wp_al0 (q := 134) dX4_spread_133 rfl (wp_getf (q := 137) dX4_spread_134 rfl f29 m0 m1 rfl (fun z => nomatch z) (wp_il1 (q := 138) dX4_spread_137 rfl (wp_iaload (q := 139) dX4_spread_138 rfl mrt (by omega) (by omega) ?_)))
                rw [eB]
                refine wp_ior _ (q := 140) dX4_spread_139 rfl rfl ?_
                rw [w1 0 (by omega)]
                refine wp_iastore (q := 141) dX4_spread_140 rfl (by omega) mws (by omega) (by omega) ?_
                have hM := hM.sWs (x := sI ws x ((wsF ch (chdM pl ws sz (2 * x)).toNat (chdM pl ws sz (2 * x + 1)).toNat (gI wm x) : Nat) : Int)) ((sI_len _ _ _).trans hws7)
                obtain ⟨m0, m1, mch, map, mpl, mwm, mlf, mrt, mws, mrw, mpt, mwh, mon, mtw, mdn, lch, lap, lpl, lwm, llf, lrt, lws, lrw, lpt, lwh, lon, ltw, ldn, m8⟩ := id hM
                refine wp_goto (q := 211) dX4_spread_141 rfl (wp_ii1 (q := 214) dX4_spread_211 rfl rfl (by omega) (by omega) (wp_goto (q := 2) dX4_spread_214 rfl ?_))
                exact ih _ _ _ _ _ _ _ (by omega) hM (SpW_step m8 hw hx0.1 hx0.2 hlf7 hrt7 hws7 rfl rfl rfl kA kB kW) (fun j hj => by rw [fr_set (by omega), fr_set (by omega), fr_set (by omega)]; exact hf j hj)
        · have j5 := i5 0 c33
          have j1 := gA1 0 c33
          refine wp_al0 (q := 37) dX4_spread_36 rfl (wp_ic (q := 38) dX4_spread_37 rfl (by decide) (by decide) (wp_il3 (q := 39) dX4_spread_38 rfl (wp_imul (q := 40) dX4_spread_39 rfl (by omega) (by omega) (wp_v1I (q := 43) dX4_spread_40 rfl q137 (Nat.le_of_ble_eq_true rfl) rfl m0 m1 rfl rfl (by have z := (mt_bit 0 hM hv (x := 2 * (x - fmA sz (rdO sz x))) (by omega) (by omega)).up (D := d + 1) (by omega); rw [dA1 0 c33] at z; exact z) (wp_goto (q := 62) dX4_spread_43 rfl (wp_iastore (q := 63) dX4_spread_62 rfl (by omega) mlf (by omega) (by omega) ?_))))))
          have hM := hM.sLf (x := sI lf x (chdM pl ws sz (2 * x))) ((sI_len _ _ _).trans hlf7)
          obtain ⟨m0, m1, mch, map, mpl, mwm, mlf, mrt, mws, mrw, mpt, mwh, mon, mtw, mdn, lch, lap, lpl, lwm, llf, lrt, lws, lrw, lpt, lwh, lon, ltw, ldn, m8⟩ := id hM
          refine wp_al0 (q := 64) dX4_spread_63 rfl (wp_getf (q := 67) dX4_spread_64 rfl f29 m0 m1 rfl (fun z => nomatch z) (wp_il1 (q := 68) dX4_spread_67 rfl (wp_il2 (q := 69) dX4_spread_68 rfl (wp_ic (q := 70) dX4_spread_69 rfl (by decide) (by decide) (wp_icmp_ne (t := 85) (q := 73) dX4_spread_70 rfl rfl (fun c70 => ?_) (fun c70 => ?_))))))
          · have j6 := i6 0 c70
            refine wp_al0 (q := 86) dX4_spread_85 rfl (wp_getf (q := 89) dX4_spread_86 rfl f30 m0 m1 rfl (fun z => nomatch z) (wp_al0 (q := 90) dX4_spread_89 rfl (wp_il2 (q := 91) dX4_spread_90 rfl (wp_ic (q := 92) dX4_spread_91 rfl (by decide) (by decide) (wp_isub (q := 93) dX4_spread_92 rfl (by omega) (by omega) (wp_v1I (q := 96) dX4_spread_93 rfl q136 (Nat.le_of_ble_eq_true rfl) rfl m0 m1 rfl rfl ((mt_startOf 0 hM (by omega) (by omega)).up (by omega)) (wp_ic (q := 97) dX4_spread_96 rfl (by decide) (by decide) (wp_il3 (q := 98) dX4_spread_97 rfl (wp_imul (q := 99) dX4_spread_98 rfl (by omega) (by omega) (wp_iadd (q := 100) dX4_spread_99 rfl (by omega) (by omega) (wp_ic (q := 101) dX4_spread_100 rfl (by decide) (by decide) (wp_iadd (q := 102) dX4_spread_101 rfl (by omega) (by omega) (wp_iaload (q := 103) dX4_spread_102 rfl mws (by omega) (by omega) ?_)))))))))))))
            rw [dB2 0 c70]
            refine wp_iastore (q := 104) dX4_spread_103 rfl (by omega) mrt (by omega) (by omega) ?_
            have hM := hM.sRt (x := sI rt x (chdM pl ws sz (2 * x + 1))) ((sI_len _ _ _).trans hrt7)
            obtain ⟨m0, m1, mch, map, mpl, mwm, mlf, mrt, mws, mrw, mpt, mwh, mon, mtw, mdn, lch, lap, lpl, lwm, llf, lrt, lws, lrw, lpt, lwh, lon, ltw, ldn, m8⟩ := id hM
            refine wp_al0 (q := 105) dX4_spread_104 rfl (wp_getf (q := 108) dX4_spread_105 rfl f28 m0 m1 rfl (fun z => nomatch z) (wp_il1 (q := 109) dX4_spread_108 rfl (wp_iaload (q := 110) dX4_spread_109 rfl mlf (by omega) (by omega) ?_)))
            rw [eA]
            refine wp_if_eq (t := 122) (q := 113) dX4_spread_110 rfl rfl (fun c110 => ?_) (fun c110 => ?_)
            · refine wp_al0 (q := 123) dX4_spread_122 rfl (wp_getf (q := 126) dX4_spread_123 rfl f30 m0 m1 rfl (fun z => nomatch z) (wp_il1 (q := 127) dX4_spread_126 rfl (wp_al0 (q := 128) dX4_spread_127 rfl (wp_getf (q := 131) dX4_spread_128 rfl f28 m0 m1 rfl (fun z => nomatch z) (wp_il1 (q := 132) dX4_spread_131 rfl (wp_iaload (q := 133) dX4_spread_132 rfl mlf (by omega) (by omega) ?_))))))
              rw [eA]
              refine wp_al0 (q := 134) dX4_spread_133 rfl (wp_getf (q := 137) dX4_spread_134 rfl f29 m0 m1 rfl (fun z => nomatch z) (wp_il1 (q := 138) dX4_spread_137 rfl (wp_iaload (q := 139) dX4_spread_138 rfl mrt (by omega) (by omega) ?_)))
              rw [eB]
              refine wp_ior _ (q := 140) dX4_spread_139 rfl rfl ?_
              rw [w1 0 (by omega)]
              refine wp_iastore (q := 141) dX4_spread_140 rfl (by omega) mws (by omega) (by omega) ?_
              have hM := hM.sWs (x := sI ws x ((wsF ch (chdM pl ws sz (2 * x)).toNat (chdM pl ws sz (2 * x + 1)).toNat (gI wm x) : Nat) : Int)) ((sI_len _ _ _).trans hws7)
              obtain ⟨m0, m1, mch, map, mpl, mwm, mlf, mrt, mws, mrw, mpt, mwh, mon, mtw, mdn, lch, lap, lpl, lwm, llf, lrt, lws, lrw, lpt, lwh, lon, ltw, ldn, m8⟩ := id hM
              refine wp_goto (q := 211) dX4_spread_141 rfl (wp_ii1 (q := 214) dX4_spread_211 rfl rfl (by omega) (by omega) (wp_goto (q := 2) dX4_spread_214 rfl ?_))
              exact ih _ _ _ _ _ _ _ (by omega) hM (SpW_step m8 hw hx0.1 hx0.2 hlf7 hrt7 hws7 rfl rfl rfl kA kB kW) (fun j hj => by rw [fr_set (by omega), fr_set (by omega), fr_set (by omega)]; exact hf j hj)
            · refine wp_al0 (q := 114) dX4_spread_113 rfl (wp_getf (q := 117) dX4_spread_114 rfl f29 m0 m1 rfl (fun z => nomatch z) (wp_il1 (q := 118) dX4_spread_117 rfl (wp_iaload (q := 119) dX4_spread_118 rfl mrt (by omega) (by omega) ?_)))
              rw [eB]
              refine wp_if_ne (t := 144) (q := 122) dX4_spread_119 rfl rfl (fun c119 => ?_) (fun c119 => ?_)
              · refine wp_al0 (q := 145) dX4_spread_144 rfl (wp_getf (q := 148) dX4_spread_145 rfl f27 m0 m1 rfl (fun z => nomatch z) (wp_il1 (q := 149) dX4_spread_148 rfl (wp_iaload (q := 150) dX4_spread_149 rfl mwm (by omega) (by omega) (wp_bi (q := 152) dX4_spread_150 rfl (by decide) (by decide) (wp_icmp_eq (t := 172) (q := 155) dX4_spread_152 rfl rfl (fun c152 => ?_) (fun c152 => ?_))))))
                · have c152 : gI wm x = -9 := c152
                  refine wp_al0 (q := 173) dX4_spread_172 rfl (wp_getf (q := 176) dX4_spread_173 rfl f30 m0 m1 rfl (fun z => nomatch z) (wp_il1 (q := 177) dX4_spread_176 rfl (wp_al0 (q := 178) dX4_spread_177 rfl (wp_al0 (q := 179) dX4_spread_178 rfl (wp_getf (q := 182) dX4_spread_179 rfl f28 m0 m1 rfl (fun z => nomatch z) (wp_il1 (q := 183) dX4_spread_182 rfl (wp_iaload (q := 184) dX4_spread_183 rfl mlf (by omega) (by omega) ?_)))))))
                  rw [eA]
                  refine wp_al0 (q := 185) dX4_spread_184 rfl (wp_getf (q := 188) dX4_spread_185 rfl f29 m0 m1 rfl (fun z => nomatch z) (wp_il1 (q := 189) dX4_spread_188 rfl (wp_iaload (q := 190) dX4_spread_189 rfl mrt (by omega) (by omega) ?_)))
                  rw [eB]
                  refine wp_v2I (q := 193) dX4_spread_190 rfl q138 (Nat.le_of_ble_eq_true rfl) rfl m0 m1 rfl rfl ((mt_beaters 0 hM ltA ltB).up (by omega)) (wp_al0 (q := 194) dX4_spread_193 rfl (wp_al0 (q := 195) dX4_spread_194 rfl (wp_getf (q := 198) dX4_spread_195 rfl f29 m0 m1 rfl (fun z => nomatch z) (wp_il1 (q := 199) dX4_spread_198 rfl (wp_iaload (q := 200) dX4_spread_199 rfl mrt (by omega) (by omega) ?_)))))
                  rw [eB]
                  refine wp_al0 (q := 201) dX4_spread_200 rfl (wp_getf (q := 204) dX4_spread_201 rfl f28 m0 m1 rfl (fun z => nomatch z) (wp_il1 (q := 205) dX4_spread_204 rfl (wp_iaload (q := 206) dX4_spread_205 rfl mlf (by omega) (by omega) ?_)))
                  rw [eA]
                  refine wp_v2I (q := 209) dX4_spread_206 rfl q138 (Nat.le_of_ble_eq_true rfl) rfl m0 m1 rfl rfl ((mt_beaters 0 hM ltB ltA).up (by omega)) (wp_ior _ (q := 210) dX4_spread_209 rfl rfl ?_)
                  rw [w3 0 (by omega) c152]
                  refine wp_iastore (q := 211) dX4_spread_210 rfl (by omega) mws (by omega) (by omega) ?_
                  have hM := hM.sWs (x := sI ws x ((wsF ch (chdM pl ws sz (2 * x)).toNat (chdM pl ws sz (2 * x + 1)).toNat (gI wm x) : Nat) : Int)) ((sI_len _ _ _).trans hws7)
                  obtain ⟨m0, m1, mch, map, mpl, mwm, mlf, mrt, mws, mrw, mpt, mwh, mon, mtw, mdn, lch, lap, lpl, lwm, llf, lrt, lws, lrw, lpt, lwh, lon, ltw, ldn, m8⟩ := id hM
                  refine wp_ii1 (q := 214) dX4_spread_211 rfl rfl (by omega) (by omega) (wp_goto (q := 2) dX4_spread_214 rfl ?_)
                  exact ih _ _ _ _ _ _ _ (by omega) hM (SpW_step m8 hw hx0.1 hx0.2 hlf7 hrt7 hws7 rfl rfl rfl kA kB kW) (fun j hj => by rw [fr_set (by omega), fr_set (by omega), fr_set (by omega)]; exact hf j hj)
                · have c152 : gI wm x ≠ -9 := c152
                  refine wp_al0 (q := 156) dX4_spread_155 rfl (wp_getf (q := 159) dX4_spread_156 rfl f30 m0 m1 rfl (fun z => nomatch z) (wp_il1 (q := 160) dX4_spread_159 rfl (wp_ic (q := 161) dX4_spread_160 rfl (by decide) (by decide) (wp_al0 (q := 162) dX4_spread_161 rfl (wp_getf (q := 165) dX4_spread_162 rfl f27 m0 m1 rfl (fun z => nomatch z) (wp_il1 (q := 166) dX4_spread_165 rfl (wp_iaload (q := 167) dX4_spread_166 rfl mwm (by omega) (by omega) (wp_ishl _ (q := 168) dX4_spread_167 rfl rfl ?_))))))))
                  rw [eW, w2 0 (by omega) c152]
                  refine wp_iastore (q := 169) dX4_spread_168 rfl (by omega) mws (by omega) (by omega) ?_
                  have hM := hM.sWs (x := sI ws x ((wsF ch (chdM pl ws sz (2 * x)).toNat (chdM pl ws sz (2 * x + 1)).toNat (gI wm x) : Nat) : Int)) ((sI_len _ _ _).trans hws7)
                  obtain ⟨m0, m1, mch, map, mpl, mwm, mlf, mrt, mws, mrw, mpt, mwh, mon, mtw, mdn, lch, lap, lpl, lwm, llf, lrt, lws, lrw, lpt, lwh, lon, ltw, ldn, m8⟩ := id hM
                  refine wp_goto (q := 211) dX4_spread_169 rfl (wp_ii1 (q := 214) dX4_spread_211 rfl rfl (by omega) (by omega) (wp_goto (q := 2) dX4_spread_214 rfl ?_))
                  exact ih _ _ _ _ _ _ _ (by omega) hM (SpW_step m8 hw hx0.1 hx0.2 hlf7 hrt7 hws7 rfl rfl rfl kA kB kW) (fun j hj => by rw [fr_set (by omega), fr_set (by omega), fr_set (by omega)]; exact hf j hj)
              · refine wp_al0 (q := 123) dX4_spread_122 rfl (wp_getf (q := 126) dX4_spread_123 rfl f30 m0 m1 rfl (fun z => nomatch z) (wp_il1 (q := 127) dX4_spread_126 rfl (wp_al0 (q := 128) dX4_spread_127 rfl (wp_getf (q := 131) dX4_spread_128 rfl f28 m0 m1 rfl (fun z => nomatch z) (wp_il1 (q := 132) dX4_spread_131 rfl (wp_iaload (q := 133) dX4_spread_132 rfl mlf (by omega) (by omega) ?_))))))
                rw [eA]
                refine wp_al0 (q := 134) dX4_spread_133 rfl (wp_getf (q := 137) dX4_spread_134 rfl f29 m0 m1 rfl (fun z => nomatch z) (wp_il1 (q := 138) dX4_spread_137 rfl (wp_iaload (q := 139) dX4_spread_138 rfl mrt (by omega) (by omega) ?_)))
                rw [eB]
                refine wp_ior _ (q := 140) dX4_spread_139 rfl rfl ?_
                rw [w1 0 (by omega)]
                refine wp_iastore (q := 141) dX4_spread_140 rfl (by omega) mws (by omega) (by omega) ?_
                have hM := hM.sWs (x := sI ws x ((wsF ch (chdM pl ws sz (2 * x)).toNat (chdM pl ws sz (2 * x + 1)).toNat (gI wm x) : Nat) : Int)) ((sI_len _ _ _).trans hws7)
                obtain ⟨m0, m1, mch, map, mpl, mwm, mlf, mrt, mws, mrw, mpt, mwh, mon, mtw, mdn, lch, lap, lpl, lwm, llf, lrt, lws, lrw, lpt, lwh, lon, ltw, ldn, m8⟩ := id hM
                refine wp_goto (q := 211) dX4_spread_141 rfl (wp_ii1 (q := 214) dX4_spread_211 rfl rfl (by omega) (by omega) (wp_goto (q := 2) dX4_spread_214 rfl ?_))
                exact ih _ _ _ _ _ _ _ (by omega) hM (SpW_step m8 hw hx0.1 hx0.2 hlf7 hrt7 hws7 rfl rfl rfl kA kB kW) (fun j hj => by rw [fr_set (by omega), fr_set (by omega), fr_set (by omega)]; exact hf j hj)
          · have j5 := i5 0 c70
            have j1 := gA1 0 c70
            refine wp_al0 (q := 74) dX4_spread_73 rfl (wp_ic (q := 75) dX4_spread_74 rfl (by decide) (by decide) (wp_il3 (q := 76) dX4_spread_75 rfl (wp_imul (q := 77) dX4_spread_76 rfl (by omega) (by omega) (wp_ic (q := 78) dX4_spread_77 rfl (by decide) (by decide) (wp_iadd (q := 79) dX4_spread_78 rfl (by omega) (by omega) (wp_v1I (q := 82) dX4_spread_79 rfl q137 (Nat.le_of_ble_eq_true rfl) rfl m0 m1 rfl rfl (by have z := (mt_bit 0 hM hv (x := 2 * (x - fmA sz (rdO sz x)) + 1) (by omega) (by omega)).up (D := d + 1) (by omega); rw [dB1 0 c70] at z; exact z) (wp_goto (q := 103) dX4_spread_82 rfl (wp_iastore (q := 104) dX4_spread_103 rfl (by omega) mrt (by omega) (by omega) ?_))))))))
            have hM := hM.sRt (x := sI rt x (chdM pl ws sz (2 * x + 1))) ((sI_len _ _ _).trans hrt7)
            obtain ⟨m0, m1, mch, map, mpl, mwm, mlf, mrt, mws, mrw, mpt, mwh, mon, mtw, mdn, lch, lap, lpl, lwm, llf, lrt, lws, lrw, lpt, lwh, lon, ltw, ldn, m8⟩ := id hM
            refine wp_al0 (q := 105) dX4_spread_104 rfl (wp_getf (q := 108) dX4_spread_105 rfl f28 m0 m1 rfl (fun z => nomatch z) (wp_il1 (q := 109) dX4_spread_108 rfl (wp_iaload (q := 110) dX4_spread_109 rfl mlf (by omega) (by omega) ?_)))
            rw [eA]
            refine wp_if_eq (t := 122) (q := 113) dX4_spread_110 rfl rfl (fun c110 => ?_) (fun c110 => ?_)
            · refine wp_al0 (q := 123) dX4_spread_122 rfl (wp_getf (q := 126) dX4_spread_123 rfl f30 m0 m1 rfl (fun z => nomatch z) (wp_il1 (q := 127) dX4_spread_126 rfl (wp_al0 (q := 128) dX4_spread_127 rfl (wp_getf (q := 131) dX4_spread_128 rfl f28 m0 m1 rfl (fun z => nomatch z) (wp_il1 (q := 132) dX4_spread_131 rfl (wp_iaload (q := 133) dX4_spread_132 rfl mlf (by omega) (by omega) ?_))))))
              rw [eA]
              refine wp_al0 (q := 134) dX4_spread_133 rfl (wp_getf (q := 137) dX4_spread_134 rfl f29 m0 m1 rfl (fun z => nomatch z) (wp_il1 (q := 138) dX4_spread_137 rfl (wp_iaload (q := 139) dX4_spread_138 rfl mrt (by omega) (by omega) ?_)))
              rw [eB]
              refine wp_ior _ (q := 140) dX4_spread_139 rfl rfl ?_
              rw [w1 0 (by omega)]
              refine wp_iastore (q := 141) dX4_spread_140 rfl (by omega) mws (by omega) (by omega) ?_
              have hM := hM.sWs (x := sI ws x ((wsF ch (chdM pl ws sz (2 * x)).toNat (chdM pl ws sz (2 * x + 1)).toNat (gI wm x) : Nat) : Int)) ((sI_len _ _ _).trans hws7)
              obtain ⟨m0, m1, mch, map, mpl, mwm, mlf, mrt, mws, mrw, mpt, mwh, mon, mtw, mdn, lch, lap, lpl, lwm, llf, lrt, lws, lrw, lpt, lwh, lon, ltw, ldn, m8⟩ := id hM
              refine wp_goto (q := 211) dX4_spread_141 rfl (wp_ii1 (q := 214) dX4_spread_211 rfl rfl (by omega) (by omega) (wp_goto (q := 2) dX4_spread_214 rfl ?_))
              exact ih _ _ _ _ _ _ _ (by omega) hM (SpW_step m8 hw hx0.1 hx0.2 hlf7 hrt7 hws7 rfl rfl rfl kA kB kW) (fun j hj => by rw [fr_set (by omega), fr_set (by omega), fr_set (by omega)]; exact hf j hj)
            · refine wp_al0 (q := 114) dX4_spread_113 rfl (wp_getf (q := 117) dX4_spread_114 rfl f29 m0 m1 rfl (fun z => nomatch z) (wp_il1 (q := 118) dX4_spread_117 rfl (wp_iaload (q := 119) dX4_spread_118 rfl mrt (by omega) (by omega) ?_)))
              rw [eB]
              refine wp_if_ne (t := 144) (q := 122) dX4_spread_119 rfl rfl (fun c119 => ?_) (fun c119 => ?_)
              · refine wp_al0 (q := 145) dX4_spread_144 rfl (wp_getf (q := 148) dX4_spread_145 rfl f27 m0 m1 rfl (fun z => nomatch z) (wp_il1 (q := 149) dX4_spread_148 rfl (wp_iaload (q := 150) dX4_spread_149 rfl mwm (by omega) (by omega) (wp_bi (q := 152) dX4_spread_150 rfl (by decide) (by decide) (wp_icmp_eq (t := 172) (q := 155) dX4_spread_152 rfl rfl (fun c152 => ?_) (fun c152 => ?_))))))
                · have c152 : gI wm x = -9 := c152
                  refine wp_al0 (q := 173) dX4_spread_172 rfl (wp_getf (q := 176) dX4_spread_173 rfl f30 m0 m1 rfl (fun z => nomatch z) (wp_il1 (q := 177) dX4_spread_176 rfl (wp_al0 (q := 178) dX4_spread_177 rfl (wp_al0 (q := 179) dX4_spread_178 rfl (wp_getf (q := 182) dX4_spread_179 rfl f28 m0 m1 rfl (fun z => nomatch z) (wp_il1 (q := 183) dX4_spread_182 rfl (wp_iaload (q := 184) dX4_spread_183 rfl mlf (by omega) (by omega) ?_)))))))
                  rw [eA]
                  refine wp_al0 (q := 185) dX4_spread_184 rfl (wp_getf (q := 188) dX4_spread_185 rfl f29 m0 m1 rfl (fun z => nomatch z) (wp_il1 (q := 189) dX4_spread_188 rfl (wp_iaload (q := 190) dX4_spread_189 rfl mrt (by omega) (by omega) ?_)))
                  rw [eB]
                  refine wp_v2I (q := 193) dX4_spread_190 rfl q138 (Nat.le_of_ble_eq_true rfl) rfl m0 m1 rfl rfl ((mt_beaters 0 hM ltA ltB).up (by omega)) (wp_al0 (q := 194) dX4_spread_193 rfl (wp_al0 (q := 195) dX4_spread_194 rfl (wp_getf (q := 198) dX4_spread_195 rfl f29 m0 m1 rfl (fun z => nomatch z) (wp_il1 (q := 199) dX4_spread_198 rfl (wp_iaload (q := 200) dX4_spread_199 rfl mrt (by omega) (by omega) ?_)))))
                  rw [eB]
                  refine wp_al0 (q := 201) dX4_spread_200 rfl (wp_getf (q := 204) dX4_spread_201 rfl f28 m0 m1 rfl (fun z => nomatch z) (wp_il1 (q := 205) dX4_spread_204 rfl (wp_iaload (q := 206) dX4_spread_205 rfl mlf (by omega) (by omega) ?_)))
                  rw [eA]
                  refine wp_v2I (q := 209) dX4_spread_206 rfl q138 (Nat.le_of_ble_eq_true rfl) rfl m0 m1 rfl rfl ((mt_beaters 0 hM ltB ltA).up (by omega)) (wp_ior _ (q := 210) dX4_spread_209 rfl rfl ?_)
                  rw [w3 0 (by omega) c152]
                  refine wp_iastore (q := 211) dX4_spread_210 rfl (by omega) mws (by omega) (by omega) ?_
                  have hM := hM.sWs (x := sI ws x ((wsF ch (chdM pl ws sz (2 * x)).toNat (chdM pl ws sz (2 * x + 1)).toNat (gI wm x) : Nat) : Int)) ((sI_len _ _ _).trans hws7)
                  obtain ⟨m0, m1, mch, map, mpl, mwm, mlf, mrt, mws, mrw, mpt, mwh, mon, mtw, mdn, lch, lap, lpl, lwm, llf, lrt, lws, lrw, lpt, lwh, lon, ltw, ldn, m8⟩ := id hM
                  refine wp_ii1 (q := 214) dX4_spread_211 rfl rfl (by omega) (by omega) (wp_goto (q := 2) dX4_spread_214 rfl ?_)
                  exact ih _ _ _ _ _ _ _ (by omega) hM (SpW_step m8 hw hx0.1 hx0.2 hlf7 hrt7 hws7 rfl rfl rfl kA kB kW) (fun j hj => by rw [fr_set (by omega), fr_set (by omega), fr_set (by omega)]; exact hf j hj)
                · have c152 : gI wm x ≠ -9 := c152
                  refine wp_al0 (q := 156) dX4_spread_155 rfl (wp_getf (q := 159) dX4_spread_156 rfl f30 m0 m1 rfl (fun z => nomatch z) (wp_il1 (q := 160) dX4_spread_159 rfl (wp_ic (q := 161) dX4_spread_160 rfl (by decide) (by decide) (wp_al0 (q := 162) dX4_spread_161 rfl (wp_getf (q := 165) dX4_spread_162 rfl f27 m0 m1 rfl (fun z => nomatch z) (wp_il1 (q := 166) dX4_spread_165 rfl (wp_iaload (q := 167) dX4_spread_166 rfl mwm (by omega) (by omega) (wp_ishl _ (q := 168) dX4_spread_167 rfl rfl ?_))))))))
                  rw [eW, w2 0 (by omega) c152]
                  refine wp_iastore (q := 169) dX4_spread_168 rfl (by omega) mws (by omega) (by omega) ?_
                  have hM := hM.sWs (x := sI ws x ((wsF ch (chdM pl ws sz (2 * x)).toNat (chdM pl ws sz (2 * x + 1)).toNat (gI wm x) : Nat) : Int)) ((sI_len _ _ _).trans hws7)
                  obtain ⟨m0, m1, mch, map, mpl, mwm, mlf, mrt, mws, mrw, mpt, mwh, mon, mtw, mdn, lch, lap, lpl, lwm, llf, lrt, lws, lrw, lpt, lwh, lon, ltw, ldn, m8⟩ := id hM
                  refine wp_goto (q := 211) dX4_spread_169 rfl (wp_ii1 (q := 214) dX4_spread_211 rfl rfl (by omega) (by omega) (wp_goto (q := 2) dX4_spread_214 rfl ?_))
                  exact ih _ _ _ _ _ _ _ (by omega) hM (SpW_step m8 hw hx0.1 hx0.2 hlf7 hrt7 hws7 rfl rfl rfl kA kB kW) (fun j hj => by rw [fr_set (by omega), fr_set (by omega), fr_set (by omega)]; exact hf j hj)
              · refine wp_al0 (q := 123) dX4_spread_122 rfl (wp_getf (q := 126) dX4_spread_123 rfl f30 m0 m1 rfl (fun z => nomatch z) (wp_il1 (q := 127) dX4_spread_126 rfl (wp_al0 (q := 128) dX4_spread_127 rfl (wp_getf (q := 131) dX4_spread_128 rfl f28 m0 m1 rfl (fun z => nomatch z) (wp_il1 (q := 132) dX4_spread_131 rfl (wp_iaload (q := 133) dX4_spread_132 rfl mlf (by omega) (by omega) ?_))))))
                rw [eA]
                refine wp_al0 (q := 134) dX4_spread_133 rfl (wp_getf (q := 137) dX4_spread_134 rfl f29 m0 m1 rfl (fun z => nomatch z) (wp_il1 (q := 138) dX4_spread_137 rfl (wp_iaload (q := 139) dX4_spread_138 rfl mrt (by omega) (by omega) ?_)))
                rw [eB]
                refine wp_ior _ (q := 140) dX4_spread_139 rfl rfl ?_
                rw [w1 0 (by omega)]
                refine wp_iastore (q := 141) dX4_spread_140 rfl (by omega) mws (by omega) (by omega) ?_
                have hM := hM.sWs (x := sI ws x ((wsF ch (chdM pl ws sz (2 * x)).toNat (chdM pl ws sz (2 * x + 1)).toNat (gI wm x) : Nat) : Int)) ((sI_len _ _ _).trans hws7)
                obtain ⟨m0, m1, mch, map, mpl, mwm, mlf, mrt, mws, mrw, mpt, mwh, mon, mtw, mdn, lch, lap, lpl, lwm, llf, lrt, lws, lrw, lpt, lwh, lon, ltw, ldn, m8⟩ := id hM
                refine wp_goto (q := 211) dX4_spread_141 rfl (wp_ii1 (q := 214) dX4_spread_211 rfl rfl (by omega) (by omega) (wp_goto (q := 2) dX4_spread_214 rfl ?_))
                exact ih _ _ _ _ _ _ _ (by omega) hM (SpW_step m8 hw hx0.1 hx0.2 hlf7 hrt7 hws7 rfl rfl rfl kA kB kW) (fun j hj => by rw [fr_set (by omega), fr_set (by omega), fr_set (by omega)]; exact hf j hj)
  show Wp _ mX4_spread 0 [mR g, mU, mU, mU] [] h (0, 0) _
  obtain ⟨m0, m1, mch, map, mpl, mwm, mlf, mrt, mws, mrw, mpt, mwh, mon, mtw, mdn, lch, lap, lpl, lwm, llf, lrt, lws, lrw, lpt, lwh, lon, ltw, ldn, m8⟩ := id hM
  refine wp_ic (q := 1) dX4_spread_0 rfl (by decide) (by decide) (wp_is1 (q := 2) dX4_spread_1 rfl rfl ?_)
  exact key 0 (Nat.zero_le _) h lf rt ws 0 mU mU rfl hM (fun m m0 m1 => by omega) (fun _ _ => rfl)
