/-! the model: like (rows laid by wip/whole) -/
theorem lk_step (d : Nat) {h : List mC} {g n sz : Nat} {ch ro pl wm lf rt ws rw pt wh on tw : List Int} {wo wt il dr : Int} {dn : List Int} (hM : MU h g (n : Int) (sz : Int) ch ro pl wm lf rt ws rw pt wh on tw wo wt il dr dn) (hn8 : n ≤ 8) {c a w a2 : Int} (w1 : 1 ≤ w) (a0 : 0 ≤ a) (a8 : a + w + w ≤ sz) (e2 : a2 = a + 2 * w) {Q : Option mV → List mC → Prop} {u4 u5 u6 : mV} (hQ : ∀ (h1 : List mC) (u4 u5 u6 : mV), MU h1 g (n : Int) (sz : Int) ch ro pl wm lf rt ws (exM rw a w) pt wh on tw wo wt il dr dn → (∀ j : Nat, (j < g ∨ g + 14 ≤ j) → h1[j]? = h[j]?) → mLong u4 = false → mLong u5 = false → Wp (d + 2) mX4_like 68 [mR g, mI c, mI w, mI a2, u4, u5, u6] [] h1 (0, 0) Q) (hu4 : mLong u4 = false) (hu5 : mLong u5 = false) : Wp (d + 2) mX4_like 68 [mR g, mI c, mI w, mI a, u4, u5, u6] [] h (0, 0) Q := by
  subst e2
  obtain ⟨m0, m1, mch, map, mpl, mwm, mlf, mrt, mws, mrw, mpt, mwh, mon, mtw, mdn, lch, lap, lpl, lwm, llf, lrt, lws, lrw, lpt, lwh, lon, ltw, ldn, m8⟩ := id hM
  have lrw0 := lrw
  obtain ⟨W, rfl⟩ := Int.eq_ofNat_of_zero_le (by omega : 0 ≤ w)
  obtain ⟨B, hB⟩ : ∃ B, B = bhF (gI rw) W a (a + (W : Int)) := ⟨_, rfl⟩
  have hX : exM rw a (W : Int) = if B = true then excL rw a (W : Int) else rw := by rw [hB]; rfl
  have hend : ∀ (h1 : List mC) (r1 : List Int) (i : Int) (u6 : mV), MU h1 g (n : Int) (sz : Int) ch ro pl wm lf rt ws r1 pt wh on tw wo wt il dr dn → (∀ j : Nat, (j < g ∨ g + 14 ≤ j) → h1[j]? = h[j]?) → r1 = exM rw a (W : Int) → Wp (d + 2) mX4_like 148 [mR g, mI c, mI (W : Int), mI a, mI (bI (B = true)), mI i, u6] [] h1 (0, 0) Q := by
    intro h1 r1 i u6 hM hf e
    rw [e] at hM
    clear hX
    refine wp_il3 (q := 149) dX4_like_148 rfl (wp_ic (q := 150) dX4_like_149 rfl (by decide) (by decide) (wp_il2 (q := 151) dX4_like_150 rfl (wp_imul (q := 152) dX4_like_151 rfl (by omega) (by omega) (wp_iadd (q := 153) dX4_like_152 rfl (by omega) (by omega) (wp_is3 (q := 154) dX4_like_153 rfl rfl (wp_goto (q := 68) dX4_like_154 rfl ?_))))))
    exact hQ h1 _ _ _ hM hf rfl rfl
  have key : ∀ (j : Nat), j ≤ W → ∀ (h1 : List mC) (r1 : List Int) (i : Int) (u6 : mV), i = j → B = true → MU h1 g (n : Int) (sz : Int) ch ro pl wm lf rt ws r1 pt wh on tw wo wt il dr dn → (∀ y : Int, 0 ≤ y → y < 8 → gI r1 y = if a ≤ y ∧ y < a + j then gI rw (y + W) else if a + W ≤ y ∧ y < a + W + j then gI rw (y - W) else gI rw y) → (∀ j : Nat, (j < g ∨ g + 14 ≤ j) → h1[j]? = h[j]?) → Wp (d + 2) mX4_like 87 [mR g, mI c, mI (W : Int), mI a, mI (bI (B = true)), mI i, u6] [] h1 (0, 0) Q := by
    refine loop_up W _ ?_ ?_
    · intro h1 r1 i u6 hi hb hM hw hf
      have hw2 : r1 = exM rw a (W : Int) := by
        obtain ⟨-, -, -, -, -, -, -, -, -, mrw', -, -, -, -, -, -, -, -, -, -, -, -, lrw', -⟩ := id hM
        rw [hX, if_pos hb]
        refine gI_ext (lrw'.trans (excL_len _ _ _).symm) (fun y y0 y1 => ?_)
        rw [hw y y0 (by omega), excL_get y0 (by omega)]
      clear hw hX
      refine wp_il5 (q := 89) dX4_like_87 rfl (wp_il2 (q := 90) dX4_like_89 rfl (wp_icmp_ge (t := 148) (q := 93) dX4_like_90 rfl rfl (fun c90 => ?_) (fun c90 => ?_)))
      · exact hend _ _ _ _ hM hf hw2
      · exfalso; omega
    · intro j hj ih h1 r1 i u6 hi hb hM hw hf
      obtain ⟨m0, m1, mch, map, mpl, mwm, mlf, mrt, mws, mrw, mpt, mwh, mon, mtw, mdn, lch, lap, lpl, lwm, llf, lrt, lws, lrw, lpt, lwh, lon, ltw, ldn, m8⟩ := id hM
      have g1 : r1.getD (a + i).toNat 0 = gI rw (a + i) := by
        have z := hw (a + i) (by omega) (by omega)
        rw [if_neg (by omega), if_neg (by omega)] at z
        exact z
      have g2 : r1.getD (a + (W : Int) + i).toNat 0 = gI rw (a + (W : Int) + i) := by
        have z := hw (a + (W : Int) + i) (by omega) (by omega)
        rw [if_neg (by omega), if_neg (by omega)] at z
        exact z
      have hw' := fun _ : Nat => hw
      have hX' := fun _ : Nat => hX
      have lr1 := lrw
      clear hw hX
      refine wp_il5 (q := 89) dX4_like_87 rfl (wp_il2 (q := 90) dX4_like_89 rfl (wp_icmp_ge (t := 148) (q := 93) dX4_like_90 rfl rfl (fun c90 => ?_) (fun c90 => ?_)))
      · exfalso; omega
      · refine wp_il4 (q := 95) dX4_like_93 rfl (wp_ifb_eq (t := 148) (q := 98) dX4_like_95 rfl rfl (fun c95 => ?_) (fun c95 => ?_))
        · exact absurd hb c95
        · refine wp_al0 (q := 99) dX4_like_98 rfl (wp_getf (q := 102) dX4_like_99 rfl f31 m0 m1 rfl (fun z => nomatch z) (wp_il3 (q := 103) dX4_like_102 rfl (wp_il5 (q := 105) dX4_like_103 rfl (wp_iadd (q := 106) dX4_like_105 rfl (by omega) (by omega) (wp_iaload (q := 107) dX4_like_106 rfl mrw (by omega) (by omega) ?_)))))
          rw [g1]
          refine wp_is6 (q := 109) dX4_like_107 rfl rfl (wp_al0 (q := 110) dX4_like_109 rfl (wp_getf (q := 113) dX4_like_110 rfl f31 m0 m1 rfl (fun z => nomatch z) (wp_il3 (q := 114) dX4_like_113 rfl (wp_il5 (q := 116) dX4_like_114 rfl (wp_iadd (q := 117) dX4_like_116 rfl (by omega) (by omega) (wp_al0 (q := 118) dX4_like_117 rfl (wp_getf (q := 121) dX4_like_118 rfl f31 m0 m1 rfl (fun z => nomatch z) (wp_il3 (q := 122) dX4_like_121 rfl (wp_il2 (q := 123) dX4_like_122 rfl (wp_iadd (q := 124) dX4_like_123 rfl (by omega) (by omega) (wp_il5 (q := 126) dX4_like_124 rfl (wp_iadd (q := 127) dX4_like_126 rfl (by omega) (by omega) (wp_iaload (q := 128) dX4_like_127 rfl mrw (by omega) (by omega) ?_)))))))))))))
          rw [g2]
          refine wp_iastore (q := 129) dX4_like_128 rfl (by omega) mrw (by omega) (by omega) ?_
          have hM := hM.sRw (x := sI r1 (a + i) (gI rw (a + (W : Int) + i))) ((sI_len _ _ _).trans lr1)
          obtain ⟨m0, m1, mch, map, mpl, mwm, mlf, mrt, mws, mrw, mpt, mwh, mon, mtw, mdn, lch, lap, lpl, lwm, llf, lrt, lws, lrw, lpt, lwh, lon, ltw, ldn, m8⟩ := id hM
          refine wp_al0 (q := 130) dX4_like_129 rfl (wp_getf (q := 133) dX4_like_130 rfl f31 m0 m1 rfl (fun z => nomatch z) (wp_il3 (q := 134) dX4_like_133 rfl (wp_il2 (q := 135) dX4_like_134 rfl (wp_iadd (q := 136) dX4_like_135 rfl (by omega) (by omega) (wp_il5 (q := 138) dX4_like_136 rfl (wp_iadd (q := 139) dX4_like_138 rfl (by omega) (by omega) (wp_il6 (q := 141) dX4_like_139 rfl (wp_iastore (q := 142) dX4_like_141 rfl (by omega) mrw (by omega) (by omega) ?_))))))))
          have hM := hM.sRw (x := sI (sI r1 (a + i) (gI rw (a + (W : Int) + i))) (a + (W : Int) + i) (gI rw (a + i))) ((sI_len _ _ _).trans ((sI_len _ _ _).trans lr1))
          refine wp_ii5 (q := 145) dX4_like_142 rfl rfl (by omega) (by omega) (wp_goto (q := 87) dX4_like_145 rfl ?_)
          refine ih _ _ _ _ (by omega) hb hM (fun y y0 y8 => ?_) (fun j hj => by rw [fr_set (by omega), fr_set (by omega)]; exact hf j hj)
          rw [gI_sI (by omega) (by rw [sI_len]; omega) y0, gI_sI (by omega) (by omega) y0, hw' 0 y y0 y8]
          by_cases q1 : y = a + (W : Int) + i
          · rw [if_pos q1, if_neg (by omega), if_pos (by omega), q1]
            congr 1
            omega
          · rw [if_neg q1]
            by_cases q2 : y = a + i
            · rw [if_pos q2, if_pos (by omega), q2]
              congr 1
              omega
            · rw [if_neg q2]
              by_cases q3 : a ≤ y ∧ y < a + (j : Int)
              · rw [if_pos q3, if_pos (by omega)]
              · by_cases q4 : a + (W : Int) ≤ y ∧ y < a + (W : Int) + (j : Int)
                · rw [if_neg q3, if_pos q4, if_neg (by omega), if_pos (by omega)]
                · rw [if_neg q3, if_neg q4, if_neg (by omega), if_neg (by omega)]
  refine wp_il3 (q := 69) dX4_like_68 rfl (wp_al0 (q := 70) dX4_like_69 rfl (wp_getf (q := 73) dX4_like_70 rfl f23 m0 m1 rfl (fun z => nomatch z) (wp_icmp_ge (t := 157) (q := 76) dX4_like_73 rfl rfl (fun c73 => ?_) (fun c73 => ?_))))
  · exfalso; omega
  · refine wp_al0 (q := 77) dX4_like_76 rfl (wp_il3 (q := 78) dX4_like_77 rfl (wp_il2 (q := 79) dX4_like_78 rfl (wp_v2I (q := 82) dX4_like_79 rfl q159 (Nat.le_of_ble_eq_true rfl) rfl m0 m1 rfl rfl (by have z := (mt_isBehind 0 hM hn8 (a := a) (b := a + (W : Int)) (w := (W : Int)) (W := W) rfl rfl rfl a0 (by omega)).up (D := d + 1) (by omega); rw [← hB] at z; exact z) (wp_is4 (q := 84) dX4_like_82 rfl rfl (wp_ic (q := 85) dX4_like_84 rfl (by decide) (by decide) (wp_is5 (q := 87) dX4_like_85 rfl rfl ?_))))))
    by_cases hb : B = true
    · exact key 0 (Nat.zero_le _) h rw 0 u6 rfl hb hM (fun y y0 y8 => by rw [if_neg (by omega), if_neg (by omega)]) (fun _ _ => rfl)
    · have hw2 : rw = exM rw a (W : Int) := by rw [hX, if_neg hb]
      clear hX key
      refine wp_il5 (q := 89) dX4_like_87 rfl (wp_il2 (q := 90) dX4_like_89 rfl (wp_icmp_ge (t := 148) (q := 93) dX4_like_90 rfl rfl (fun c90 => ?_) (fun c90 => ?_)))
      · exact hend _ _ _ _ hM (fun _ _ => rfl) hw2
      · refine wp_il4 (q := 95) dX4_like_93 rfl (wp_ifb_eq (t := 148) (q := 98) dX4_like_95 rfl rfl (fun c95 => ?_) (fun c95 => ?_))
        · exact hend _ _ _ _ hM (fun _ _ => rfl) hw2
        · exact absurd c95 hb
theorem lk_ord (d : Nat) {h : List mC} {g n sz : Nat} {ch ro pl wm lf rt ws rw pt wh on tw : List Int} {wo wt il dr : Int} {dn : List Int} (hM : MU h g (n : Int) (sz : Int) ch ro pl wm lf rt ws rw pt wh on tw wo wt il dr dn) (hn8 : n ≤ 8) (hG : GW sz rw) {c : Int} {Q : Option mV → List mC → Prop} (hQ : ∀ (h1 : List mC) (w : Int) (u3 u4 u5 u6 : mV), MU h1 g (n : Int) (sz : Int) ch ro pl wm lf rt ws (ordL rw sz) pt wh on tw wo wt il dr dn → (∀ j : Nat, (j < g ∨ g + 14 ≤ j) → h1[j]? = h[j]?) → mLong u3 = false → Wp (d + 2) mX4_like 164 [mR g, mI c, mI w, u3, u4, u5, u6] [] h1 (0, 0) Q) {u2 u3 u4 u5 u6 : mV} (hu2 : mLong u2 = false) (hu3 : mLong u3 = false) (hu4 : mLong u4 = false) (hu5 : mLong u5 = false) : Wp (d + 2) mX4_like 56 [mR g, mI c, u2, u3, u4, u5, u6] [] h (0, 0) Q := by
  obtain ⟨m0, m1, mch, map, mpl, mwm, mlf, mrt, mws, mrw, mpt, mwh, mon, mtw, mdn, lch, lap, lpl, lwm, llf, lrt, lws, lrw, lpt, lwh, lon, ltw, ldn, m8⟩ := id hM
  have hsz : sz = 2 ∨ sz = 4 ∨ sz = 8 := by omega
  rcases hsz with rfl | rfl | rfl
  · have ho := (ord_2 (l := rw) hG).1
    rw [show ((2 : Nat) : Int) = 2 from rfl, ← ho] at hQ
    clear ho hG
    refine wp_ic (q := 57) dX4_like_56 rfl (by decide) (by decide) (wp_is2 (q := 58) dX4_like_57 rfl rfl (wp_il2 (q := 59) dX4_like_58 rfl (wp_al0 (q := 60) dX4_like_59 rfl (wp_getf (q := 63) dX4_like_60 rfl f23 m0 m1 rfl (fun z => nomatch z) (wp_icmp_ge (t := 164) (q := 66) dX4_like_63 rfl rfl (fun c63 => ?_) (fun c63 => ?_))))))
    · exfalso; omega
    · refine wp_ic (q := 67) dX4_like_66 rfl (by decide) (by decide) (wp_is3 (q := 68) dX4_like_67 rfl rfl ?_)
      refine lk_step d hM hn8 (a2 := 2) (by decide) (by decide) (by decide) (by decide) (fun h1 v4 v5 v6 k1 f1 t4 t5 => ?_) (by assumption) (by assumption)
      have hM := k1
      obtain ⟨m0, m1, mch, map, mpl, mwm, mlf, mrt, mws, mrw, mpt, mwh, mon, mtw, mdn, lch, lap, lpl, lwm, llf, lrt, lws, lrw, lpt, lwh, lon, ltw, ldn, m8⟩ := id hM
      refine wp_il3 (q := 69) dX4_like_68 rfl (wp_al0 (q := 70) dX4_like_69 rfl (wp_getf (q := 73) dX4_like_70 rfl f23 m0 m1 rfl (fun z => nomatch z) (wp_icmp_ge (t := 157) (q := 76) dX4_like_73 rfl rfl (fun c73 => ?_) (fun c73 => ?_))))
      · refine wp_il2 (q := 158) dX4_like_157 rfl (wp_ic (q := 159) dX4_like_158 rfl (by decide) (by decide) (wp_imul (q := 160) dX4_like_159 rfl (by omega) (by omega) (wp_is2 (q := 161) dX4_like_160 rfl rfl (wp_goto (q := 58) dX4_like_161 rfl (wp_il2 (q := 59) dX4_like_58 rfl (wp_al0 (q := 60) dX4_like_59 rfl (wp_getf (q := 63) dX4_like_60 rfl f23 m0 m1 rfl (fun z => nomatch z) (wp_icmp_ge (t := 164) (q := 66) dX4_like_63 rfl rfl (fun c63 => ?_) (fun c63 => ?_)))))))))
        · exact hQ _ _ _ _ _ _ hM (fun j hj => (f1 j hj)) rfl
        · exfalso; omega
      · exfalso; omega
  · have ho := (ord_4 (l := rw) hG).1
    rw [show ((4 : Nat) : Int) = 4 from rfl, ← ho] at hQ
    clear ho hG
    refine wp_ic (q := 57) dX4_like_56 rfl (by decide) (by decide) (wp_is2 (q := 58) dX4_like_57 rfl rfl (wp_il2 (q := 59) dX4_like_58 rfl (wp_al0 (q := 60) dX4_like_59 rfl (wp_getf (q := 63) dX4_like_60 rfl f23 m0 m1 rfl (fun z => nomatch z) (wp_icmp_ge (t := 164) (q := 66) dX4_like_63 rfl rfl (fun c63 => ?_) (fun c63 => ?_))))))
    · exfalso; omega
    · refine wp_ic (q := 67) dX4_like_66 rfl (by decide) (by decide) (wp_is3 (q := 68) dX4_like_67 rfl rfl ?_)
      refine lk_step d hM hn8 (a2 := 2) (by decide) (by decide) (by decide) (by decide) (fun h1 v4 v5 v6 k1 f1 t4 t5 => ?_) (by assumption) (by assumption)
      have hM := k1
      obtain ⟨m0, m1, mch, map, mpl, mwm, mlf, mrt, mws, mrw, mpt, mwh, mon, mtw, mdn, lch, lap, lpl, lwm, llf, lrt, lws, lrw, lpt, lwh, lon, ltw, ldn, m8⟩ := id hM
      refine lk_step d k1 hn8 (a2 := 4) (by decide) (by decide) (by decide) (by decide) (fun h2 v4 v5 v6 k2 f2 t4 t5 => ?_) t4 t5
      have hM := k2
      obtain ⟨m0, m1, mch, map, mpl, mwm, mlf, mrt, mws, mrw, mpt, mwh, mon, mtw, mdn, lch, lap, lpl, lwm, llf, lrt, lws, lrw, lpt, lwh, lon, ltw, ldn, m8⟩ := id hM
      refine wp_il3 (q := 69) dX4_like_68 rfl (wp_al0 (q := 70) dX4_like_69 rfl (wp_getf (q := 73) dX4_like_70 rfl f23 m0 m1 rfl (fun z => nomatch z) (wp_icmp_ge (t := 157) (q := 76) dX4_like_73 rfl rfl (fun c73 => ?_) (fun c73 => ?_))))
      · refine wp_il2 (q := 158) dX4_like_157 rfl (wp_ic (q := 159) dX4_like_158 rfl (by decide) (by decide) (wp_imul (q := 160) dX4_like_159 rfl (by omega) (by omega) (wp_is2 (q := 161) dX4_like_160 rfl rfl (wp_goto (q := 58) dX4_like_161 rfl (wp_il2 (q := 59) dX4_like_58 rfl (wp_al0 (q := 60) dX4_like_59 rfl (wp_getf (q := 63) dX4_like_60 rfl f23 m0 m1 rfl (fun z => nomatch z) (wp_icmp_ge (t := 164) (q := 66) dX4_like_63 rfl rfl (fun c63 => ?_) (fun c63 => ?_)))))))))
        · exfalso; omega
        · refine wp_ic (q := 67) dX4_like_66 rfl (by decide) (by decide) (wp_is3 (q := 68) dX4_like_67 rfl rfl ?_)
          refine lk_step d k2 hn8 (a2 := 4) (by decide) (by decide) (by decide) (by decide) (fun h3 v4 v5 v6 k3 f3 t4 t5 => ?_) t4 t5
          have hM := k3
          obtain ⟨m0, m1, mch, map, mpl, mwm, mlf, mrt, mws, mrw, mpt, mwh, mon, mtw, mdn, lch, lap, lpl, lwm, llf, lrt, lws, lrw, lpt, lwh, lon, ltw, ldn, m8⟩ := id hM
          refine wp_il3 (q := 69) dX4_like_68 rfl (wp_al0 (q := 70) dX4_like_69 rfl (wp_getf (q := 73) dX4_like_70 rfl f23 m0 m1 rfl (fun z => nomatch z) (wp_icmp_ge (t := 157) (q := 76) dX4_like_73 rfl rfl (fun c73 => ?_) (fun c73 => ?_))))
          · refine wp_il2 (q := 158) dX4_like_157 rfl (wp_ic (q := 159) dX4_like_158 rfl (by decide) (by decide) (wp_imul (q := 160) dX4_like_159 rfl (by omega) (by omega) (wp_is2 (q := 161) dX4_like_160 rfl rfl (wp_goto (q := 58) dX4_like_161 rfl (wp_il2 (q := 59) dX4_like_58 rfl (wp_al0 (q := 60) dX4_like_59 rfl (wp_getf (q := 63) dX4_like_60 rfl f23 m0 m1 rfl (fun z => nomatch z) (wp_icmp_ge (t := 164) (q := 66) dX4_like_63 rfl rfl (fun c63 => ?_) (fun c63 => ?_)))))))))
            · exact hQ _ _ _ _ _ _ hM (fun j hj => ((f3 j hj).trans ((f2 j hj).trans (f1 j hj)))) rfl
            · exfalso; omega
          · exfalso; omega
      · exfalso; omega
  · have ho := (ord_8 (l := rw) hG).1
    rw [show ((8 : Nat) : Int) = 8 from rfl, ← ho] at hQ
    clear ho hG
    refine wp_ic (q := 57) dX4_like_56 rfl (by decide) (by decide) (wp_is2 (q := 58) dX4_like_57 rfl rfl (wp_il2 (q := 59) dX4_like_58 rfl (wp_al0 (q := 60) dX4_like_59 rfl (wp_getf (q := 63) dX4_like_60 rfl f23 m0 m1 rfl (fun z => nomatch z) (wp_icmp_ge (t := 164) (q := 66) dX4_like_63 rfl rfl (fun c63 => ?_) (fun c63 => ?_))))))
    · exfalso; omega
    · refine wp_ic (q := 67) dX4_like_66 rfl (by decide) (by decide) (wp_is3 (q := 68) dX4_like_67 rfl rfl ?_)
      refine lk_step d hM hn8 (a2 := 2) (by decide) (by decide) (by decide) (by decide) (fun h1 v4 v5 v6 k1 f1 t4 t5 => ?_) (by assumption) (by assumption)
      have hM := k1
      obtain ⟨m0, m1, mch, map, mpl, mwm, mlf, mrt, mws, mrw, mpt, mwh, mon, mtw, mdn, lch, lap, lpl, lwm, llf, lrt, lws, lrw, lpt, lwh, lon, ltw, ldn, m8⟩ := id hM
      refine lk_step d k1 hn8 (a2 := 4) (by decide) (by decide) (by decide) (by decide) (fun h2 v4 v5 v6 k2 f2 t4 t5 => ?_) t4 t5
      have hM := k2
      obtain ⟨m0, m1, mch, map, mpl, mwm, mlf, mrt, mws, mrw, mpt, mwh, mon, mtw, mdn, lch, lap, lpl, lwm, llf, lrt, lws, lrw, lpt, lwh, lon, ltw, ldn, m8⟩ := id hM
      refine lk_step d k2 hn8 (a2 := 6) (by decide) (by decide) (by decide) (by decide) (fun h3 v4 v5 v6 k3 f3 t4 t5 => ?_) t4 t5
      have hM := k3
      obtain ⟨m0, m1, mch, map, mpl, mwm, mlf, mrt, mws, mrw, mpt, mwh, mon, mtw, mdn, lch, lap, lpl, lwm, llf, lrt, lws, lrw, lpt, lwh, lon, ltw, ldn, m8⟩ := id hM
      refine lk_step d k3 hn8 (a2 := 8) (by decide) (by decide) (by decide) (by decide) (fun h4 v4 v5 v6 k4 f4 t4 t5 => ?_) t4 t5
      have hM := k4
      obtain ⟨m0, m1, mch, map, mpl, mwm, mlf, mrt, mws, mrw, mpt, mwh, mon, mtw, mdn, lch, lap, lpl, lwm, llf, lrt, lws, lrw, lpt, lwh, lon, ltw, ldn, m8⟩ := id hM
      refine wp_il3 (q := 69) dX4_like_68 rfl (wp_al0 (q := 70) dX4_like_69 rfl (wp_getf (q := 73) dX4_like_70 rfl f23 m0 m1 rfl (fun z => nomatch z) (wp_icmp_ge (t := 157) (q := 76) dX4_like_73 rfl rfl (fun c73 => ?_) (fun c73 => ?_))))
      · refine wp_il2 (q := 158) dX4_like_157 rfl (wp_ic (q := 159) dX4_like_158 rfl (by decide) (by decide) (wp_imul (q := 160) dX4_like_159 rfl (by omega) (by omega) (wp_is2 (q := 161) dX4_like_160 rfl rfl (wp_goto (q := 58) dX4_like_161 rfl (wp_il2 (q := 59) dX4_like_58 rfl (wp_al0 (q := 60) dX4_like_59 rfl (wp_getf (q := 63) dX4_like_60 rfl f23 m0 m1 rfl (fun z => nomatch z) (wp_icmp_ge (t := 164) (q := 66) dX4_like_63 rfl rfl (fun c63 => ?_) (fun c63 => ?_)))))))))
        · exfalso; omega
        · refine wp_ic (q := 67) dX4_like_66 rfl (by decide) (by decide) (wp_is3 (q := 68) dX4_like_67 rfl rfl ?_)
          refine lk_step d k4 hn8 (a2 := 4) (by decide) (by decide) (by decide) (by decide) (fun h5 v4 v5 v6 k5 f5 t4 t5 => ?_) t4 t5
          have hM := k5
          obtain ⟨m0, m1, mch, map, mpl, mwm, mlf, mrt, mws, mrw, mpt, mwh, mon, mtw, mdn, lch, lap, lpl, lwm, llf, lrt, lws, lrw, lpt, lwh, lon, ltw, ldn, m8⟩ := id hM
          refine lk_step d k5 hn8 (a2 := 8) (by decide) (by decide) (by decide) (by decide) (fun h6 v4 v5 v6 k6 f6 t4 t5 => ?_) t4 t5
          have hM := k6
          obtain ⟨m0, m1, mch, map, mpl, mwm, mlf, mrt, mws, mrw, mpt, mwh, mon, mtw, mdn, lch, lap, lpl, lwm, llf, lrt, lws, lrw, lpt, lwh, lon, ltw, ldn, m8⟩ := id hM
          refine wp_il3 (q := 69) dX4_like_68 rfl (wp_al0 (q := 70) dX4_like_69 rfl (wp_getf (q := 73) dX4_like_70 rfl f23 m0 m1 rfl (fun z => nomatch z) (wp_icmp_ge (t := 157) (q := 76) dX4_like_73 rfl rfl (fun c73 => ?_) (fun c73 => ?_))))
          · refine wp_il2 (q := 158) dX4_like_157 rfl (wp_ic (q := 159) dX4_like_158 rfl (by decide) (by decide) (wp_imul (q := 160) dX4_like_159 rfl (by omega) (by omega) (wp_is2 (q := 161) dX4_like_160 rfl rfl (wp_goto (q := 58) dX4_like_161 rfl (wp_il2 (q := 59) dX4_like_58 rfl (wp_al0 (q := 60) dX4_like_59 rfl (wp_getf (q := 63) dX4_like_60 rfl f23 m0 m1 rfl (fun z => nomatch z) (wp_icmp_ge (t := 164) (q := 66) dX4_like_63 rfl rfl (fun c63 => ?_) (fun c63 => ?_)))))))))
            · exfalso; omega
            · refine wp_ic (q := 67) dX4_like_66 rfl (by decide) (by decide) (wp_is3 (q := 68) dX4_like_67 rfl rfl ?_)
              refine lk_step d k6 hn8 (a2 := 8) (by decide) (by decide) (by decide) (by decide) (fun h7 v4 v5 v6 k7 f7 t4 t5 => ?_) t4 t5
              have hM := k7
              obtain ⟨m0, m1, mch, map, mpl, mwm, mlf, mrt, mws, mrw, mpt, mwh, mon, mtw, mdn, lch, lap, lpl, lwm, llf, lrt, lws, lrw, lpt, lwh, lon, ltw, ldn, m8⟩ := id hM
              refine wp_il3 (q := 69) dX4_like_68 rfl (wp_al0 (q := 70) dX4_like_69 rfl (wp_getf (q := 73) dX4_like_70 rfl f23 m0 m1 rfl (fun z => nomatch z) (wp_icmp_ge (t := 157) (q := 76) dX4_like_73 rfl rfl (fun c73 => ?_) (fun c73 => ?_))))
              · refine wp_il2 (q := 158) dX4_like_157 rfl (wp_ic (q := 159) dX4_like_158 rfl (by decide) (by decide) (wp_imul (q := 160) dX4_like_159 rfl (by omega) (by omega) (wp_is2 (q := 161) dX4_like_160 rfl rfl (wp_goto (q := 58) dX4_like_161 rfl (wp_il2 (q := 59) dX4_like_58 rfl (wp_al0 (q := 60) dX4_like_59 rfl (wp_getf (q := 63) dX4_like_60 rfl f23 m0 m1 rfl (fun z => nomatch z) (wp_icmp_ge (t := 164) (q := 66) dX4_like_63 rfl rfl (fun c63 => ?_) (fun c63 => ?_)))))))))
                · exact hQ _ _ _ _ _ _ hM (fun j hj => ((f7 j hj).trans ((f6 j hj).trans ((f5 j hj).trans ((f4 j hj).trans ((f3 j hj).trans ((f2 j hj).trans (f1 j hj)))))))) rfl
                · exfalso; omega
              · exfalso; omega
          · exfalso; omega
      · exfalso; omega
