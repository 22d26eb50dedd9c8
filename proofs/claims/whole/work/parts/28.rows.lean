/-! the list of draws: rows put in order, laid, weighed (rows laid by wip/whole) -/
theorem gI_map8 {F : Nat → Int} {x : Int} (h0 : 0 ≤ x) (h1 : x < 8) : gI ((List.range 8).map F) x = F x.toNat := by
  unfold gI
  rw [List.getD_eq_getElem?_getD, List.getElem?_map, List.getElem?_range (by omega)]
  rfl
theorem map8_len {F : Nat → Int} : ((List.range 8).map F).length = 8 := by rw [List.length_map, List.length_range]
theorem gI_sI {l : List Int} {x v y : Int} (h0 : 0 ≤ x) (h : x < l.length) (hy : 0 ≤ y) : gI (sI l x v) y = if y = x then v else gI l y := by
  by_cases e : y = x
  · rw [if_pos e, e, gI_eq h0 h]
  · rw [if_neg e, gI_ne h0 hy (by omega)]
/-- two blocks of w places from f on, exchanged -/
def excL (l : List Int) (f w : Int) : List Int := (List.range 8).map (fun (y : Nat) => if f ≤ y ∧ (y : Int) < f + w then gI l (y + w) else if f + w ≤ y ∧ (y : Int) < f + w + w then gI l (y - w) else gI l y)
def exO (l : List Int) (f w : Int) : List Int := if gI l (f + w) < gI l f then excL l f w else l
def ordN (l : List Int) (w : Int) : Nat → List Int
  | 0 => l
  | i + 1 => exO (ordN l w i) (i * (2 * w)) w
def ordL (l : List Int) (sz : Int) : List Int :=
  if sz ≤ 2 then ordN l 1 4 else if sz ≤ 4 then ordN (ordN l 1 4) 2 2 else ordN (ordN (ordN l 1 4) 2 2) 4 1
theorem excL_len (l : List Int) (f w : Int) : (excL l f w).length = 8 := map8_len
theorem exO_len {l : List Int} (hl : l.length = 8) (f w : Int) : (exO l f w).length = 8 := by
  unfold exO
  split
  · exact excL_len l f w
  · exact hl
theorem ordN_len {l : List Int} (hl : l.length = 8) (w : Int) : ∀ n, (ordN l w n).length = 8
  | 0 => hl
  | n + 1 => exO_len (ordN_len hl w n) _ _
theorem ordL_len {l : List Int} (hl : l.length = 8) (sz : Int) : (ordL l sz).length = 8 := by
  unfold ordL
  split
  · exact ordN_len hl _ _
  · split
    · exact ordN_len (ordN_len hl _ _) _ _
    · exact ordN_len (ordN_len (ordN_len hl _ _) _ _) _ _
theorem ct_exchange (d : Nat) {h : List mC} {k : Nat} {ln : Int} {rw rs lo : List Int} (hL : LiAt h k ln rw rs lo) {f w : Int} (hf : 0 ≤ f) (hw : 1 ≤ w) (hfw : f + w + w ≤ 8) : Rt (d + 0) mX1_exchange [mR k, mI f, mI w] h none (h.set (k + 1) (mA (excL rw f w))) := by
  obtain ⟨a0, a1, a2, a3, a4, a5, a6, a7, a8, a9⟩ := id hL
  have key : ∀ (j : Nat), j ≤ w.toNat → ∀ (h1 : List mC) (l1 : List Int) (x : Int) (u : mV), x = f + j → LiAt h1 k ln l1 rs lo → (∀ y : Int, 0 ≤ y → y < 8 → gI l1 y = if f ≤ y ∧ y < f + j then gI rw (y + w) else if f + w ≤ y ∧ y < f + w + j then gI rw (y - w) else gI rw y) → (∀ c, h1.set (k + 1) c = h.set (k + 1) c) → Wp (d + 0) mX1_exchange 2 [mR k, mI f, mI w, mI x, u] [] h1 (0, 0) (fun r' h' => r' = none ∧ h' = h.set (k + 1) (mA (excL rw f w))) := by
    refine loop_up w.toNat _ ?_ ?_
    · intro h1 l1 x u hx hL hv hh
      obtain ⟨a0, a1, a2, a3, a4, a5, a6, a7, a8, a9⟩ := id hL
      refine wp_il3 (q := 3) dX1_exchange_2 rfl (wp_il1 (q := 4) dX1_exchange_3 rfl (wp_il2 (q := 5) dX1_exchange_4 rfl (wp_iadd (q := 6) dX1_exchange_5 rfl (by omega) (by omega) (wp_icmp_ge (t := 55) (q := 9) dX1_exchange_6 rfl rfl (fun c6 => ?_) (fun c6 => ?_)))))
      · refine wp_vret dX1_exchange_55 rfl ?_
        refine ⟨rfl, ?_⟩
        rw [← hh, ← gI_ext (l := l1) (l' := excL rw f w) (by rw [excL_len]; exact a5) ?_, gs_id a2]
        intro y y0 y1
        rw [hv y y0 (by omega)]
        unfold excL
        rw [gI_map8 y0 (by omega), show ((y.toNat : Nat) : Int) = y by omega, show f + (w.toNat : Nat) = f + w by omega, show f + w + (w.toNat : Nat) = f + w + w by omega]
      · exfalso; omega
    · intro j hj ih h1 l1 x u hx hL hv hh
      obtain ⟨a0, a1, a2, a3, a4, a5, a6, a7, a8, a9⟩ := id hL
      have g1 : l1.getD x.toNat 0 = gI rw x := by
        have z := hv x (by omega) (by omega)
        rw [if_neg (by omega), if_neg (by omega)] at z
        exact z
      have g2 : l1.getD (x + w).toNat 0 = gI rw (x + w) := by
        have z := hv (x + w) (by omega) (by omega)
        rw [if_neg (by omega), if_neg (by omega)] at z
        exact z
      refine wp_il3 (q := 3) dX1_exchange_2 rfl (wp_il1 (q := 4) dX1_exchange_3 rfl (wp_il2 (q := 5) dX1_exchange_4 rfl (wp_iadd (q := 6) dX1_exchange_5 rfl (by omega) (by omega) (wp_icmp_ge (t := 55) (q := 9) dX1_exchange_6 rfl rfl (fun c6 => ?_) (fun c6 => ?_)))))
      · exfalso; omega
      · refine wp_il3 (q := 10) dX1_exchange_9 rfl (wp_il2 (q := 11) dX1_exchange_10 rfl (wp_iadd (q := 12) dX1_exchange_11 rfl (by omega) (by omega) (wp_bi (q := 14) dX1_exchange_12 rfl (by decide) (by decide) (wp_icmp_ge (t := 55) (q := 17) dX1_exchange_14 rfl rfl (fun c14 => ?_) (fun c14 => ?_)))))
        · exfalso; omega
        · refine wp_al0 (q := 18) dX1_exchange_17 rfl (wp_getf (q := 21) dX1_exchange_18 rfl f13 a0 a1 rfl (fun z => nomatch z) (wp_il3 (q := 22) dX1_exchange_21 rfl (wp_iaload (q := 23) dX1_exchange_22 rfl a2 (by omega) (by omega) (wp_is4 (q := 25) dX1_exchange_23 rfl rfl (wp_al0 (q := 26) dX1_exchange_25 rfl (wp_getf (q := 29) dX1_exchange_26 rfl f13 a0 a1 rfl (fun z => nomatch z) (wp_il3 (q := 30) dX1_exchange_29 rfl (wp_al0 (q := 31) dX1_exchange_30 rfl (wp_getf (q := 34) dX1_exchange_31 rfl f13 a0 a1 rfl (fun z => nomatch z) (wp_il3 (q := 35) dX1_exchange_34 rfl (wp_il2 (q := 36) dX1_exchange_35 rfl (wp_iadd (q := 37) dX1_exchange_36 rfl (by omega) (by omega) (wp_iaload (q := 38) dX1_exchange_37 rfl a2 (by omega) (by omega) ?_)))))))))))))
          refine wp_iastore (q := 39) dX1_exchange_38 rfl (by omega) a2 (by omega) (by omega) ?_
          rw [g1, g2]
          have hL := hL.setW (rw' := sI l1 x (gI rw (x + w))) (by rw [sI_len]; exact a5)
          have a5' := a5
          obtain ⟨a0, a1, a2, a3, a4, a5, a6, a7, a8, a9⟩ := id hL
          have a2 : (h1.set (k + 1) (mA (l1.set x.toNat (gI rw (x + w)))))[k + 1]? = some (mA (l1.set x.toNat (gI rw (x + w)))) := a2
          refine wp_al0 (q := 40) dX1_exchange_39 rfl (wp_getf (q := 43) dX1_exchange_40 rfl f13 a0 a1 rfl (fun z => nomatch z) (wp_il3 (q := 44) dX1_exchange_43 rfl (wp_il2 (q := 45) dX1_exchange_44 rfl (wp_iadd (q := 46) dX1_exchange_45 rfl (by omega) (by omega) (wp_il4 (q := 48) dX1_exchange_46 rfl (wp_iastore (q := 49) dX1_exchange_48 rfl (by omega) a2 (by omega) (by rw [List.length_set]; omega) (wp_ii3 (q := 52) dX1_exchange_49 rfl rfl (by omega) (by omega) (wp_goto (q := 2) dX1_exchange_52 rfl ?_))))))))
          have hL := hL.setW (rw' := sI (sI l1 x (gI rw (x + w))) (x + w) (gI rw x)) (by rw [sI_len]; exact a5)
          refine ih _ _ _ _ (by omega) hL ?_ (fun c => by rw [gs_ss, gs_ss]; exact hh c)
          intro y y0 y1
          rw [gI_sI (by omega) (by rw [sI_len]; omega) y0, gI_sI (by omega) (by omega) y0, hv y y0 y1]
          (repeat' split) <;> first | rfl | (exfalso; omega) | exact congrArg (gI rw) (by omega)
  show Wp _ mX1_exchange 0 [mR k, mI f, mI w, mU, mU] [] h (0, 0) _
  refine wp_il1 (q := 1) dX1_exchange_0 rfl (wp_is3 (q := 2) dX1_exchange_1 rfl rfl ?_)
  refine key 0 (Nat.zero_le _) h rw f mU (by omega) hL ?_ (fun _ => rfl)
  intro y y0 y1
  rw [if_neg (by omega), if_neg (by omega)]
theorem ct_orderRowOf (d : Nat) {h : List mC} {k : Nat} {ln : Int} {rw rs lo : List Int} (hL : LiAt h k ln rw rs lo) {c : Nat} {sz : Int} {pl wi od : List Int} (hB : BrAt h c sz pl wi od) (hkc : k + 4 ≤ c ∨ c + 4 ≤ k) : Rt (d + 1) mX1_orderRowOf [mR k, mR c] h none (h.set (k + 1) (mA (ordL pl sz))) := by
  obtain ⟨a0, a1, a2, a3, a4, a5, a6, a7, a8, a9⟩ := id hL
  obtain ⟨b0, b1, b2, b3, b4, b5, b6, b7, b8⟩ := id hB
  -- a width's blocks
  have inner : ∀ (w : Int) (n : Nat) (l : List Int), 1 ≤ w → w ≤ 4 → 2 * w * n = 8 → l.length = 8 → (∀ (u : mV), Wp (d + 1) mX1_orderRowOf 27 [mR k, mR c, mI (w + w), u] [] (h.set (k + 1) (mA (ordN l w n))) (0, 0) (fun r' h' => r' = none ∧ h' = h.set (k + 1) (mA (ordL pl sz)))) →
      ∀ (j : Nat), j ≤ n → ∀ (l1 : List Int) (x : Int), x = j * (2 * w) → l1 = ordN l w j → Wp (d + 1) mX1_orderRowOf 37 [mR k, mR c, mI w, mI x] [] (h.set (k + 1) (mA l1)) (0, 0) (fun r' h' => r' = none ∧ h' = h.set (k + 1) (mA (ordL pl sz))) := by
    intro w n l hw1 hw4 hwn hl hK
    refine loop_up n _ ?_ ?_
    · intro l1 x hx hl0
      have hl1 : l1.length = 8 := by rw [hl0]; exact ordN_len hl w n
      have hx8 : x = 8 := by rw [hx, ← hwn, Int.mul_comm]
      have hL := hL.setW (rw' := l1) hl1
      have hB : BrAt (h.set (k + 1) (mA l1)) c sz pl wi od := hB.fr (fun j _ _ => fr_set (by omega))
      obtain ⟨a0, a1, a2, a3, a4, a5, a6, a7, a8, a9⟩ := id hL
      obtain ⟨b0, b1, b2, b3, b4, b5, b6, b7, b8⟩ := id hB
      refine wp_il3 (q := 38) dX1_orderRowOf_37 rfl (wp_il2 (q := 39) dX1_orderRowOf_38 rfl (wp_iadd (q := 40) dX1_orderRowOf_39 rfl (by omega) (by omega) (wp_bi (q := 42) dX1_orderRowOf_40 rfl (by decide) (by decide) (wp_icmp_ge (t := 77) (q := 45) dX1_orderRowOf_42 rfl rfl (fun c42 => ?_) (fun c42 => ?_)))))
      · refine wp_il2 (q := 78) dX1_orderRowOf_77 rfl (wp_il2 (q := 79) dX1_orderRowOf_78 rfl (wp_iadd (q := 80) dX1_orderRowOf_79 rfl (by omega) (by omega) (wp_is2 (q := 81) dX1_orderRowOf_80 rfl rfl (wp_goto (q := 27) dX1_orderRowOf_81 rfl ?_))))
        rw [hl0]
        exact hK _
      · exfalso; omega
    · intro j hj ih l1 x hx hl0
      have hl1 : l1.length = 8 := by rw [hl0]; exact ordN_len hl w j
      have hx8 : x + 2 * w ≤ 8 := by
        have := Int.mul_le_mul_of_nonneg_right (show ((j : Int) + 1) ≤ n by omega) (show 0 ≤ 2 * w by omega)
        rw [Int.add_mul, Int.mul_comm (n : Int), hwn] at this
        omega
      have hx0 : 0 ≤ x := by rw [hx]; exact Int.mul_nonneg (by omega) (by omega)
      have hxn : x + (w + w) = ((j + 1 : Nat) : Int) * (2 * w) := by rw [hx, Int.natCast_add, Int.add_mul]; omega
      have hL := hL.setW (rw' := l1) hl1
      have hB : BrAt (h.set (k + 1) (mA l1)) c sz pl wi od := hB.fr (fun j _ _ => fr_set (by omega))
      obtain ⟨a0, a1, a2, a3, a4, a5, a6, a7, a8, a9⟩ := id hL
      obtain ⟨b0, b1, b2, b3, b4, b5, b6, b7, b8⟩ := id hB
      refine wp_il3 (q := 38) dX1_orderRowOf_37 rfl (wp_il2 (q := 39) dX1_orderRowOf_38 rfl (wp_iadd (q := 40) dX1_orderRowOf_39 rfl (by omega) (by omega) (wp_bi (q := 42) dX1_orderRowOf_40 rfl (by decide) (by decide) (wp_icmp_ge (t := 77) (q := 45) dX1_orderRowOf_42 rfl rfl (fun c42 => ?_) (fun c42 => ?_)))))
      · exfalso; omega
      · refine wp_al0 (q := 46) dX1_orderRowOf_45 rfl (wp_getf (q := 49) dX1_orderRowOf_46 rfl f13 a0 a1 rfl (fun z => nomatch z) (wp_il3 (q := 50) dX1_orderRowOf_49 rfl (wp_iaload (q := 51) dX1_orderRowOf_50 rfl a2 (by omega) (by omega) (wp_al0 (q := 52) dX1_orderRowOf_51 rfl (wp_getf (q := 55) dX1_orderRowOf_52 rfl f13 a0 a1 rfl (fun z => nomatch z) (wp_il3 (q := 56) dX1_orderRowOf_55 rfl (wp_il2 (q := 57) dX1_orderRowOf_56 rfl (wp_iadd (q := 58) dX1_orderRowOf_57 rfl (by omega) (by omega) (wp_iaload (q := 59) dX1_orderRowOf_58 rfl a2 (by omega) (by omega) (wp_icmp_le (t := 68) (q := 62) dX1_orderRowOf_59 rfl rfl (fun c59 => ?_) (fun c59 => ?_)))))))))))
        · refine wp_il3 (q := 69) dX1_orderRowOf_68 rfl (wp_il2 (q := 70) dX1_orderRowOf_69 rfl (wp_il2 (q := 71) dX1_orderRowOf_70 rfl (wp_iadd (q := 72) dX1_orderRowOf_71 rfl (by omega) (by omega) (wp_iadd (q := 73) dX1_orderRowOf_72 rfl (by omega) (by omega) (wp_is3 (q := 74) dX1_orderRowOf_73 rfl rfl (wp_goto (q := 37) dX1_orderRowOf_74 rfl ?_))))))
          try rw [gs_ss]
          refine ih _ _ hxn ?_
          show _ = exO (ordN l w j) (j * (2 * w)) w
          rw [← hl0, ← hx]
          unfold exO
          first
            | rw [if_pos (show gI l1 (x + w) < gI l1 x from c59)]
            | rw [if_neg (show ¬ gI l1 (x + w) < gI l1 x from fun z => by have c59' : gI l1 x ≤ gI l1 (x + w) := c59; omega)]
        · refine wp_al0 (q := 63) dX1_orderRowOf_62 rfl (wp_il3 (q := 64) dX1_orderRowOf_63 rfl (wp_il2 (q := 65) dX1_orderRowOf_64 rfl (wp_v2V (q := 68) dX1_orderRowOf_65 rfl q98 (Nat.le_of_ble_eq_true rfl) rfl a0 a1 rfl rfl (ct_exchange d hL hx0 hw1 (by omega)) (wp_il3 (q := 69) dX1_orderRowOf_68 rfl (wp_il2 (q := 70) dX1_orderRowOf_69 rfl (wp_il2 (q := 71) dX1_orderRowOf_70 rfl (wp_iadd (q := 72) dX1_orderRowOf_71 rfl (by omega) (by omega) (wp_iadd (q := 73) dX1_orderRowOf_72 rfl (by omega) (by omega) (wp_is3 (q := 74) dX1_orderRowOf_73 rfl rfl (wp_goto (q := 37) dX1_orderRowOf_74 rfl ?_))))))))))
          try rw [gs_ss]
          refine ih _ _ hxn ?_
          show _ = exO (ordN l w j) (j * (2 * w)) w
          rw [← hl0, ← hx]
          unfold exO
          first
            | rw [if_pos (show gI l1 (x + w) < gI l1 x from c59)]
            | rw [if_neg (show ¬ gI l1 (x + w) < gI l1 x from fun z => by have c59' : gI l1 x ≤ gI l1 (x + w) := c59; omega)]
  have hpl8 : pl.length = 8 := b5
  have q8 : ∀ (l : List Int) (u : mV), l.length = 8 → l = ordL pl sz → Wp (d + 1) mX1_orderRowOf 27 [mR k, mR c, mI 8, u] [] (h.set (k + 1) (mA l)) (0, 0) (fun r' h' => r' = none ∧ h' = h.set (k + 1) (mA (ordL pl sz))) := by
    intro l1 u hl1 he
    have hL := hL.setW (rw' := l1) hl1
    have hB : BrAt (h.set (k + 1) (mA l1)) c sz pl wi od := hB.fr (fun j _ _ => fr_set (by omega))
    obtain ⟨a0, a1, a2, a3, a4, a5, a6, a7, a8, a9⟩ := id hL
    obtain ⟨b0, b1, b2, b3, b4, b5, b6, b7, b8⟩ := id hB
    refine wp_il2 (q := 28) dX1_orderRowOf_27 rfl (wp_al1 (q := 29) dX1_orderRowOf_28 rfl (wp_getf (q := 32) dX1_orderRowOf_29 rfl f7 b0 b1 rfl (fun z => nomatch z) (wp_icmp_ge (t := 84) (q := 35) dX1_orderRowOf_32 rfl rfl (fun c32 => ?_) (fun c32 => ?_))))
    · refine wp_vret dX1_orderRowOf_84 rfl ?_
      exact ⟨rfl, by rw [he]⟩
    · exfalso; omega
  have q4 : ∀ (l : List Int) (u : mV), l.length = 8 → (if sz ≤ 4 then l else ordN l 4 1) = ordL pl sz → Wp (d + 1) mX1_orderRowOf 27 [mR k, mR c, mI 4, u] [] (h.set (k + 1) (mA l)) (0, 0) (fun r' h' => r' = none ∧ h' = h.set (k + 1) (mA (ordL pl sz))) := by
    intro l1 u hl1 he
    have hL := hL.setW (rw' := l1) hl1
    have hB : BrAt (h.set (k + 1) (mA l1)) c sz pl wi od := hB.fr (fun j _ _ => fr_set (by omega))
    obtain ⟨a0, a1, a2, a3, a4, a5, a6, a7, a8, a9⟩ := id hL
    obtain ⟨b0, b1, b2, b3, b4, b5, b6, b7, b8⟩ := id hB
    refine wp_il2 (q := 28) dX1_orderRowOf_27 rfl (wp_al1 (q := 29) dX1_orderRowOf_28 rfl (wp_getf (q := 32) dX1_orderRowOf_29 rfl f7 b0 b1 rfl (fun z => nomatch z) (wp_icmp_ge (t := 84) (q := 35) dX1_orderRowOf_32 rfl rfl (fun c32 => ?_) (fun c32 => ?_))))
    · refine wp_vret dX1_orderRowOf_84 rfl ?_
      exact ⟨rfl, by rw [if_pos (by omega)] at he; rw [he]⟩
    · refine wp_ic (q := 36) dX1_orderRowOf_35 rfl (by decide) (by decide) (wp_is3 (q := 37) dX1_orderRowOf_36 rfl rfl ?_)
      exact inner 4 1 l1 (by omega) (by omega) (by omega) hl1 (fun u => q8 _ u (ordN_len hl1 _ _) (by rw [if_neg (by omega)] at he; exact he)) 0 (Nat.zero_le _) l1 0 (by simp) rfl
  have q2 : ∀ (l : List Int) (u : mV), l.length = 8 → (if sz ≤ 2 then l else if sz ≤ 4 then ordN l 2 2 else ordN (ordN l 2 2) 4 1) = ordL pl sz → Wp (d + 1) mX1_orderRowOf 27 [mR k, mR c, mI 2, u] [] (h.set (k + 1) (mA l)) (0, 0) (fun r' h' => r' = none ∧ h' = h.set (k + 1) (mA (ordL pl sz))) := by
    intro l1 u hl1 he
    have hL := hL.setW (rw' := l1) hl1
    have hB : BrAt (h.set (k + 1) (mA l1)) c sz pl wi od := hB.fr (fun j _ _ => fr_set (by omega))
    obtain ⟨a0, a1, a2, a3, a4, a5, a6, a7, a8, a9⟩ := id hL
    obtain ⟨b0, b1, b2, b3, b4, b5, b6, b7, b8⟩ := id hB
    refine wp_il2 (q := 28) dX1_orderRowOf_27 rfl (wp_al1 (q := 29) dX1_orderRowOf_28 rfl (wp_getf (q := 32) dX1_orderRowOf_29 rfl f7 b0 b1 rfl (fun z => nomatch z) (wp_icmp_ge (t := 84) (q := 35) dX1_orderRowOf_32 rfl rfl (fun c32 => ?_) (fun c32 => ?_))))
    · refine wp_vret dX1_orderRowOf_84 rfl ?_
      exact ⟨rfl, by rw [if_pos (by omega)] at he; rw [he]⟩
    · refine wp_ic (q := 36) dX1_orderRowOf_35 rfl (by decide) (by decide) (wp_is3 (q := 37) dX1_orderRowOf_36 rfl rfl ?_)
      exact inner 2 2 l1 (by omega) (by omega) (by omega) hl1 (fun u => q4 _ u (ordN_len hl1 _ _) (by rw [if_neg (by omega)] at he; exact he)) 0 (Nat.zero_le _) l1 0 (by simp) rfl
  have q1 : ∀ (l : List Int) (u : mV), l.length = 8 → l = pl → Wp (d + 1) mX1_orderRowOf 27 [mR k, mR c, mI 1, u] [] (h.set (k + 1) (mA l)) (0, 0) (fun r' h' => r' = none ∧ h' = h.set (k + 1) (mA (ordL pl sz))) := by
    intro l1 u hl1 he
    have hL := hL.setW (rw' := l1) hl1
    have hB : BrAt (h.set (k + 1) (mA l1)) c sz pl wi od := hB.fr (fun j _ _ => fr_set (by omega))
    obtain ⟨a0, a1, a2, a3, a4, a5, a6, a7, a8, a9⟩ := id hL
    obtain ⟨b0, b1, b2, b3, b4, b5, b6, b7, b8⟩ := id hB
    refine wp_il2 (q := 28) dX1_orderRowOf_27 rfl (wp_al1 (q := 29) dX1_orderRowOf_28 rfl (wp_getf (q := 32) dX1_orderRowOf_29 rfl f7 b0 b1 rfl (fun z => nomatch z) (wp_icmp_ge (t := 84) (q := 35) dX1_orderRowOf_32 rfl rfl (fun c32 => ?_) (fun c32 => ?_))))
    · exfalso; omega
    · refine wp_ic (q := 36) dX1_orderRowOf_35 rfl (by decide) (by decide) (wp_is3 (q := 37) dX1_orderRowOf_36 rfl rfl ?_)
      exact inner 1 4 l1 (by omega) (by omega) (by omega) hl1 (fun u => q2 _ u (ordN_len hl1 _ _) (by rw [he]; rfl)) 0 (Nat.zero_le _) l1 0 (by simp) rfl
  have keyA : ∀ (j : Nat), j ≤ 8 → ∀ (l1 : List Int) (x : Int) (u : mV), x = j → l1.length = 8 → (∀ y : Int, 0 ≤ y → y < j → gI l1 y = gI pl y) → Wp (d + 1) mX1_orderRowOf 2 [mR k, mR c, mI x, u] [] (h.set (k + 1) (mA l1)) (0, 0) (fun r' h' => r' = none ∧ h' = h.set (k + 1) (mA (ordL pl sz))) := by
    refine loop_up 8 _ ?_ ?_
    · intro l1 x u hx hl1 hv
      have hL := hL.setW (rw' := l1) hl1
      have hB : BrAt (h.set (k + 1) (mA l1)) c sz pl wi od := hB.fr (fun j _ _ => fr_set (by omega))
      obtain ⟨a0, a1, a2, a3, a4, a5, a6, a7, a8, a9⟩ := id hL
      obtain ⟨b0, b1, b2, b3, b4, b5, b6, b7, b8⟩ := id hB
      refine wp_il2 (q := 3) dX1_orderRowOf_2 rfl (wp_bi (q := 5) dX1_orderRowOf_3 rfl (by decide) (by decide) (wp_icmp_ge (t := 25) (q := 8) dX1_orderRowOf_5 rfl rfl (fun c5 => ?_) (fun c5 => ?_)))
      · refine wp_ic (q := 26) dX1_orderRowOf_25 rfl (by decide) (by decide) (wp_is2 (q := 27) dX1_orderRowOf_26 rfl rfl ?_)
        exact q1 l1 u hl1 (gI_ext (by omega) (fun y y0 y1 => hv y y0 (by omega)))
      · exfalso; omega
    · intro j hj ih l1 x u hx hl1 hv
      have hL := hL.setW (rw' := l1) hl1
      have hB : BrAt (h.set (k + 1) (mA l1)) c sz pl wi od := hB.fr (fun j _ _ => fr_set (by omega))
      obtain ⟨a0, a1, a2, a3, a4, a5, a6, a7, a8, a9⟩ := id hL
      obtain ⟨b0, b1, b2, b3, b4, b5, b6, b7, b8⟩ := id hB
      refine wp_il2 (q := 3) dX1_orderRowOf_2 rfl (wp_bi (q := 5) dX1_orderRowOf_3 rfl (by decide) (by decide) (wp_icmp_ge (t := 25) (q := 8) dX1_orderRowOf_5 rfl rfl (fun c5 => ?_) (fun c5 => ?_)))
      · exfalso; omega
      · refine wp_al0 (q := 9) dX1_orderRowOf_8 rfl (wp_getf (q := 12) dX1_orderRowOf_9 rfl f13 a0 a1 rfl (fun z => nomatch z) (wp_il2 (q := 13) dX1_orderRowOf_12 rfl (wp_al1 (q := 14) dX1_orderRowOf_13 rfl (wp_il2 (q := 15) dX1_orderRowOf_14 rfl (wp_v1I (q := 18) dX1_orderRowOf_15 rfl q97 (Nat.le_of_ble_eq_true rfl) rfl b0 b1 rfl rfl (ct_playerAt d hB) (wp_iastore (q := 19) dX1_orderRowOf_18 rfl (by omega) a2 (by omega) (by omega) (wp_ii2 (q := 22) dX1_orderRowOf_19 rfl rfl (by omega) (by omega) (wp_goto (q := 2) dX1_orderRowOf_22 rfl ?_))))))))
        rw [gs_ss]
        refine ih (sI l1 x (rd8 pl x)) _ u (by omega) (by rw [sI_len]; exact hl1) ?_
        intro y y0 y1
        rw [gI_sI (by omega) (by omega) y0]
        by_cases e : y = x
        · rw [if_pos e, e]
          unfold rd8
          rw [if_pos (by omega)]
        · rw [if_neg e]
          exact hv y y0 (by omega)
  show Wp _ mX1_orderRowOf 0 [mR k, mR c, mU, mU] [] h (0, 0) _
  refine wp_ic (q := 1) dX1_orderRowOf_0 rfl (by decide) (by decide) (wp_is2 (q := 2) dX1_orderRowOf_1 rfl rfl ?_)
  have z := keyA 0 (Nat.zero_le _) rw 0 mU rfl a5 (fun y y0 y1 => by omega)
  rw [gs_id a2] at z
  exact z
def nlA (ln : Int) (rs l : List Int) : Int := fndF (fun i => bI (∀ x : Nat, x < 8 → lpA ln rs i x = gI l x)) 1 ln.toNat ln.toNat
theorem ct_numberOfLike (d : Nat) {h : List mC} {k : Nat} {ln : Int} {rw rs lo : List Int} (hL : LiAt h k ln rw rs lo) {c : Nat} {sz : Int} {pl wi od : List Int} (hB : BrAt h c sz pl wi od) (hkc : k + 4 ≤ c ∨ c + 4 ≤ k) : Rt (d + 3) mX1_numberOfLike [mR k, mR c] h (some (mI (nlA ln rs (ordL pl sz)))) (h.set (k + 1) (mA (ordL pl sz))) := by
  obtain ⟨a0, a1, a2, a3, a4, a5, a6, a7, a8, a9⟩ := id hL
  obtain ⟨b0, b1, b2, b3, b4, b5, b6, b7, b8⟩ := id hB
  have hl1 := ordL_len b5 sz
  generalize hT : ordL pl sz = l1 at hl1
  have key : LiAt (h.set (k + 1) (mA l1)) k ln l1 rs lo → ∀ (j : Nat), j ≤ ln.toNat → ∀ (x : Int), x = j → fndF (fun i => bI (∀ x : Nat, x < 8 → lpA ln rs i x = gI l1 x)) 1 ln.toNat (ln.toNat - j) = nlA ln rs l1 → Wp (d + 3) mX1_numberOfLike 7 [mR k, mR c, mI x] [] (h.set (k + 1) (mA l1)) (0, 0) (fun r' h' => r' = some (mI (nlA ln rs l1)) ∧ h' = h.set (k + 1) (mA l1)) := by
    intro hL
    obtain ⟨a0, a1, a2, a3, a4, a5, a6, a7, a8, a9⟩ := id hL
    refine loop_up ln.toNat _ ?_ ?_
    · intro x hx hc
      refine wp_il2 (q := 8) dX1_numberOfLike_7 rfl (wp_al0 (q := 9) dX1_numberOfLike_8 rfl (wp_getf (q := 12) dX1_numberOfLike_9 rfl f11 a0 a1 rfl (fun z => nomatch z) (wp_icmp_ge (t := 31) (q := 15) dX1_numberOfLike_12 rfl rfl (fun c12 => ?_) (fun c12 => ?_))))
      · refine wp_ic (q := 32) dX1_numberOfLike_31 rfl (by decide) (by decide) (wp_iret dX1_numberOfLike_32 rfl ?_)
        exact ⟨rI (by rw [← hc, Nat.sub_self]; rfl), rfl⟩
      · exfalso; omega
    · intro j hj ih x hx hc
      have e0 : ln.toNat - j = (ln.toNat - (j + 1)) + 1 := by omega
      rw [e0] at hc
      unfold fndF at hc
      have e1 : ((ln.toNat - (ln.toNat - (j + 1) + 1) : Nat) : Int) = x := by omega
      rw [e1] at hc
      refine wp_il2 (q := 8) dX1_numberOfLike_7 rfl (wp_al0 (q := 9) dX1_numberOfLike_8 rfl (wp_getf (q := 12) dX1_numberOfLike_9 rfl f11 a0 a1 rfl (fun z => nomatch z) (wp_icmp_ge (t := 31) (q := 15) dX1_numberOfLike_12 rfl rfl (fun c12 => ?_) (fun c12 => ?_))))
      · exfalso; omega
      · refine wp_al0 (q := 16) dX1_numberOfLike_15 rfl (wp_il2 (q := 17) dX1_numberOfLike_16 rfl (wp_v1I (q := 20) dX1_numberOfLike_17 rfl q99 (Nat.le_of_ble_eq_true rfl) rfl a0 a1 rfl rfl ((ct_isRow d hL (by omega) (by omega))) (wp_ifb_eq (t := 25) (q := 23) dX1_numberOfLike_20 rfl rfl (fun c20 => ?_) (fun c20 => ?_))))
        · refine wp_ii2 (q := 28) dX1_numberOfLike_25 rfl rfl (by omega) (by omega) (wp_goto (q := 7) dX1_numberOfLike_28 rfl ?_)
          exact ih _ (by omega) (by rw [if_neg (by rw [bI_f c20]; decide)] at hc; exact hc)
        · refine wp_il2 (q := 24) dX1_numberOfLike_23 rfl (wp_iret dX1_numberOfLike_24 rfl ?_)
          exact ⟨rI (by rw [if_pos (bI_t c20)] at hc; exact hc), rfl⟩
  show Wp _ mX1_numberOfLike 0 [mR k, mR c, mU] [] h (0, 0) _
  refine wp_al0 (q := 1) dX1_numberOfLike_0 rfl (wp_al1 (q := 2) dX1_numberOfLike_1 rfl (wp_v1V (q := 5) dX1_numberOfLike_2 rfl q96 (Nat.le_of_ble_eq_true rfl) rfl a0 a1 rfl rfl ((by have z := ct_orderRowOf (d + 1) hL hB hkc; rw [hT] at z; exact z)) (wp_ic (q := 6) dX1_numberOfLike_5 rfl (by decide) (by decide) (wp_is2 (q := 7) dX1_numberOfLike_6 rfl rfl ?_))))
  exact key (hL.setW hl1) 0 (Nat.zero_le _) 0 rfl rfl
