/-! the model: isBehind, halvesFit, fits, keep (rows laid by wip/whole) -/
theorem mt_isBehind (d : Nat) {h : List mC} {g n sz : Nat} {ch ro pl wm lf rt ws rw pt wh on tw : List Int} {wo wt il dr : Int} {dn : List Int} (hM : MU h g (n : Int) (sz : Int) ch ro pl wm lf rt ws rw pt wh on tw wo wt il dr dn) (hn8 : n ≤ 8) {a a' w b : Int} {W : Nat} (hw : w = W) (ha : a' = a) (hb : b = a + w) (a0 : 0 ≤ a) (a8 : a + w + w ≤ 8) : Rt (d + 0) mX4_isBehind [mR g, mI a', mI w] h (some (mI (bI (bhF (gI rw) W a b = true)))) h := by
  subst ha
  obtain ⟨m0, m1, mch, map, mpl, mwm, mlf, mrt, mws, mrw, mpt, mwh, mon, mtw, mdn, lch, lap, lpl, lwm, llf, lrt, lws, lrw, lpt, lwh, lon, ltw, ldn, m8⟩ := id hM
  have key : ∀ (j : Nat), j ≤ W → ∀ (x : Int), x = j → bhF (gI rw) (W - j) (a' + x) (b + x) = bhF (gI rw) W a' b → Wp (d + 0) mX4_isBehind 2 [mR g, mI a', mI w, mI x] [] h (0, 0) (fun r' h' => r' = some (mI (bI (bhF (gI rw) W a' b = true))) ∧ h' = h) := by
    refine loop_up W _ ?_ ?_
    · intro x hx he
      rw [Nat.sub_self] at he
      have he0 : bhF (gI rw) W a' b = false := he.symm
      refine wp_il3 (q := 3) dX4_isBehind_2 rfl (wp_il2 (q := 4) dX4_isBehind_3 rfl (wp_icmp_ge (t := 34) (q := 7) dX4_isBehind_4 rfl rfl (fun c4 => ?_) (fun c4 => ?_)))
      · refine wp_il3 (q := 35) dX4_isBehind_34 rfl (wp_il2 (q := 36) dX4_isBehind_35 rfl (wp_icmp_ge (t := 64) (q := 39) dX4_isBehind_36 rfl rfl (fun c36 => ?_) (fun c36 => ?_)))
        · refine wp_ic (q := 65) dX4_isBehind_64 rfl (by decide) (by decide) (wp_bret dX4_isBehind_65 rfl (Or.inl rfl) ?_)
          exact ⟨rI (by rw [he0]; rfl), rfl⟩
        · exfalso; omega
      · exfalso; omega
    · intro j hj ih x hx he
      rw [show W - j = (W - (j + 1)) + 1 by omega] at he
      have e2 : bhF (gI rw) (W - (j + 1) + 1) (a' + x) (b + x) = if gI rw (a' + x) = gI rw (b + x) then bhF (gI rw) (W - (j + 1)) (a' + x + 1) (b + x + 1) else decide (gI rw (b + x) < gI rw (a' + x)) := rfl
      rw [e2] at he
      have g1 : rw.getD (a' + x).toNat 0 = gI rw (a' + x) := rfl
      have g2 : rw.getD (a' + w + x).toNat 0 = gI rw (b + x) := by rw [hb]; rfl
      refine wp_il3 (q := 3) dX4_isBehind_2 rfl (wp_il2 (q := 4) dX4_isBehind_3 rfl (wp_icmp_ge (t := 34) (q := 7) dX4_isBehind_4 rfl rfl (fun c4 => ?_) (fun c4 => ?_)))
      · exfalso; omega
      · refine wp_al0 (q := 8) dX4_isBehind_7 rfl (wp_getf (q := 11) dX4_isBehind_8 rfl f31 m0 m1 rfl (fun z => nomatch z) (wp_il1 (q := 12) dX4_isBehind_11 rfl (wp_il3 (q := 13) dX4_isBehind_12 rfl (wp_iadd (q := 14) dX4_isBehind_13 rfl (by omega) (by omega) (wp_iaload (q := 15) dX4_isBehind_14 rfl mrw (by omega) (by omega) ?_)))))
        rw [g1]
        refine wp_al0 (q := 16) dX4_isBehind_15 rfl (wp_getf (q := 19) dX4_isBehind_16 rfl f31 m0 m1 rfl (fun z => nomatch z) (wp_il1 (q := 20) dX4_isBehind_19 rfl (wp_il2 (q := 21) dX4_isBehind_20 rfl (wp_iadd (q := 22) dX4_isBehind_21 rfl (by omega) (by omega) (wp_il3 (q := 23) dX4_isBehind_22 rfl (wp_iadd (q := 24) dX4_isBehind_23 rfl (by omega) (by omega) (wp_iaload (q := 25) dX4_isBehind_24 rfl mrw (by omega) (by omega) ?_)))))))
        rw [g2]
        refine wp_icmp_ne (t := 34) (q := 28) dX4_isBehind_25 rfl rfl (fun c25 => ?_) (fun c25 => ?_)
        · rw [if_neg c25] at he
          refine wp_il3 (q := 35) dX4_isBehind_34 rfl (wp_il2 (q := 36) dX4_isBehind_35 rfl (wp_icmp_ge (t := 64) (q := 39) dX4_isBehind_36 rfl rfl (fun c36 => ?_) (fun c36 => ?_)))
          · exfalso; omega
          · refine wp_al0 (q := 40) dX4_isBehind_39 rfl (wp_getf (q := 43) dX4_isBehind_40 rfl f31 m0 m1 rfl (fun z => nomatch z) (wp_il1 (q := 44) dX4_isBehind_43 rfl (wp_il3 (q := 45) dX4_isBehind_44 rfl (wp_iadd (q := 46) dX4_isBehind_45 rfl (by omega) (by omega) (wp_iaload (q := 47) dX4_isBehind_46 rfl mrw (by omega) (by omega) ?_)))))
            rw [g1]
            refine wp_al0 (q := 48) dX4_isBehind_47 rfl (wp_getf (q := 51) dX4_isBehind_48 rfl f31 m0 m1 rfl (fun z => nomatch z) (wp_il1 (q := 52) dX4_isBehind_51 rfl (wp_il2 (q := 53) dX4_isBehind_52 rfl (wp_iadd (q := 54) dX4_isBehind_53 rfl (by omega) (by omega) (wp_il3 (q := 55) dX4_isBehind_54 rfl (wp_iadd (q := 56) dX4_isBehind_55 rfl (by omega) (by omega) (wp_iaload (q := 57) dX4_isBehind_56 rfl mrw (by omega) (by omega) ?_)))))))
            rw [g2]
            refine wp_icmp_le (t := 64) (q := 60) dX4_isBehind_57 rfl rfl (fun c57 => ?_) (fun c57 => ?_)
            · refine wp_ic (q := 65) dX4_isBehind_64 rfl (by decide) (by decide) (wp_bret dX4_isBehind_65 rfl (by first | exact Or.inl rfl | exact Or.inr rfl) ?_)
              refine ⟨rI ?_, rfl⟩
              rw [← he]
              first
                | rw [decide_eq_false (Int.not_lt.mpr c57)]; rfl
                | rw [decide_eq_true c57]; rfl
            · refine wp_ic (q := 61) dX4_isBehind_60 rfl (by decide) (by decide) (wp_goto (q := 65) dX4_isBehind_61 rfl (wp_bret dX4_isBehind_65 rfl (by first | exact Or.inl rfl | exact Or.inr rfl) ?_))
              refine ⟨rI ?_, rfl⟩
              rw [← he]
              first
                | rw [decide_eq_false (Int.not_lt.mpr c57)]; rfl
                | rw [decide_eq_true c57]; rfl
        · rw [if_pos c25] at he
          refine wp_ii3 (q := 31) dX4_isBehind_28 rfl rfl (by omega) (by omega) (wp_goto (q := 2) dX4_isBehind_31 rfl ?_)
          exact ih _ (by omega) (by rw [show a' + (x + 1) = a' + x + 1 by omega, show b + (x + 1) = b + x + 1 by omega]; exact he)
  show Wp _ mX4_isBehind 0 [mR g, mI a', mI w, mU] [] h (0, 0) _
  refine wp_ic (q := 1) dX4_isBehind_0 rfl (by decide) (by decide) (wp_is3 (q := 2) dX4_isBehind_1 rfl rfl ?_)
  exact key 0 (Nat.zero_le _) 0 rfl (by rw [Int.add_zero, Int.add_zero]; rfl)
theorem nbx {c : Prop} [Decidable c] {x b : Bool} (hb : b = (!decide c || !x)) : (¬ c → b = true) ∧ (c → x = true → b = false) ∧ (¬ x = true → b = true) := by
  subst hb
  refine ⟨fun h => ?_, fun h h2 => ?_, fun h => ?_⟩
  · rw [decide_eq_false h]; rfl
  · rw [decide_eq_true h, h2]; rfl
  · rw [Bool.eq_false_iff.mpr h]; exact Bool.or_true _
theorem nbA {B b r T : Bool} (h : ¬ B = true) (e : (B && (b && r)) = T) : (false && r) = T := by rw [Bool.eq_false_iff.mpr h] at e; exact e
theorem nbF {B b r T : Bool} (h : b = false) (e : (B && (b && r)) = T) : (false && r) = T := by rw [h] at e; cases B <;> exact e
theorem nbT {B b r T : Bool} (h : B = true) (h2 : b = true) (e : (B && (b && r)) = T) : (true && r) = T := by rw [h, h2] at e; exact e
theorem nbE {B b r T : Bool} (h2 : b = true) (h3 : r = true) (e : (B && (b && r)) = T) : B = T := by rw [h2, h3] at e; cases B <;> exact e
theorem mt_halvesFit (d : Nat) {h : List mC} {g n sz : Nat} {ch ro pl wm lf rt ws rw pt wh on tw : List Int} {wo wt il dr : Int} {dn : List Int} (hM : MU h g (n : Int) (sz : Int) ch ro pl wm lf rt ws rw pt wh on tw wo wt il dr dn) (hn8 : n ≤ 8) {x : Int} (x0 : 0 ≤ x) (x1 : x < sz) : Rt (d + 1) mX4_halvesFit [mR g, mI x] h (some (mI (bI (hvB (gI rw) sz x = true)))) h := by
  obtain ⟨m0, m1, mch, map, mpl, mwm, mlf, mrt, mws, mrw, mpt, mwh, mon, mtw, mdn, lch, lap, lpl, lwm, llf, lrt, lws, lrw, lpt, lwh, lon, ltw, ldn, m8⟩ := id hM
  obtain ⟨b1, h1⟩ : ∃ b, b = (!decide ((x + 1) % 2 = 0 ∧ 1 < (sz : Int)) || !bhF (gI rw) 1 (x - 1) x) := ⟨_, rfl⟩
  obtain ⟨b2, h2⟩ : ∃ b, b = (!decide ((x + 1) % 4 = 0 ∧ 2 < (sz : Int)) || !bhF (gI rw) 2 (x - 3) (x - 1)) := ⟨_, rfl⟩
  obtain ⟨b4, h4⟩ : ∃ b, b = (!decide ((x + 1) % 8 = 0 ∧ 4 < (sz : Int)) || !bhF (gI rw) 4 (x - 7) (x - 3)) := ⟨_, rfl⟩
  have hT : hvB (gI rw) sz x = (b1 && (b2 && b4)) := by rw [h1, h2, h4]; rfl
  obtain ⟨T, hTe⟩ : ∃ T, T = hvB (gI rw) sz x := ⟨_, rfl⟩
  rw [← hTe] at hT
  rw [← hTe]
  obtain ⟨n1, f1, t1⟩ := nbx h1
  obtain ⟨n2, f2, t2⟩ := nbx h2
  obtain ⟨n4, f4, t4⟩ := nbx h4
  have l8 : ∀ B : Bool, (B && true) = T → Wp (d + 1) mX4_halvesFit 4 [mR g, mI x, mI (bI (B = true)), mI 8] [] h (0, 0) (fun r' h' => r' = some (mI (bI (T = true))) ∧ h' = h) := by
    intro B e
    refine wp_il3 (q := 5) dX4_halvesFit_4 rfl (wp_al0 (q := 6) dX4_halvesFit_5 rfl (wp_getf (q := 9) dX4_halvesFit_6 rfl f23 m0 m1 rfl (fun z => nomatch z) (wp_icmp_ge (t := 54) (q := 12) dX4_halvesFit_9 rfl rfl (fun c9 => ?_) (fun c9 => ?_))))
    · refine wp_il2 (q := 55) dX4_halvesFit_54 rfl (wp_bret dX4_halvesFit_55 rfl (by first | exact Or.inl rfl | exact Or.inr rfl | exact bI_01) ?_)
      exact ⟨rI (by rw [← e, Bool.and_true]), rfl⟩
    · exfalso; omega
  have l4 : ∀ B : Bool, (B && (b4 && true)) = T → Wp (d + 1) mX4_halvesFit 4 [mR g, mI x, mI (bI (B = true)), mI 4] [] h (0, 0) (fun r' h' => r' = some (mI (bI (T = true))) ∧ h' = h) := by
    intro B e
    refine wp_il3 (q := 5) dX4_halvesFit_4 rfl (wp_al0 (q := 6) dX4_halvesFit_5 rfl (wp_getf (q := 9) dX4_halvesFit_6 rfl f23 m0 m1 rfl (fun z => nomatch z) (wp_icmp_ge (t := 54) (q := 12) dX4_halvesFit_9 rfl rfl (fun c9 => ?_) (fun c9 => ?_))))
    · refine wp_il2 (q := 55) dX4_halvesFit_54 rfl (wp_bret dX4_halvesFit_55 rfl (by first | exact Or.inl rfl | exact Or.inr rfl | exact bI_01) ?_)
      first
        | (exfalso; omega)
        | exact ⟨rI (by rw [nbE (n4 (by omega)) rfl e]), rfl⟩
    · refine wp_il1 (q := 13) dX4_halvesFit_12 rfl (wp_ic (q := 14) dX4_halvesFit_13 rfl (by decide) (by decide) (wp_iadd (q := 15) dX4_halvesFit_14 rfl (by omega) (by omega) (wp_ic (q := 16) dX4_halvesFit_15 rfl (by decide) (by decide) (wp_il3 (q := 17) dX4_halvesFit_16 rfl (wp_imul (q := 18) dX4_halvesFit_17 rfl (by omega) (by omega) (wp_irem (q := 19) dX4_halvesFit_18 rfl (by omega) (by omega) (wp_if_ne (t := 54) (q := 22) dX4_halvesFit_19 rfl rfl (fun c19 => ?_) (fun c19 => ?_))))))))
      · refine wp_il2 (q := 55) dX4_halvesFit_54 rfl (wp_bret dX4_halvesFit_55 rfl (by first | exact Or.inl rfl | exact Or.inr rfl | exact bI_01) ?_)
        first
          | (exfalso; omega)
          | exact ⟨rI (by rw [nbE (n4 (by omega)) rfl e]), rfl⟩
      · refine wp_il2 (q := 23) dX4_halvesFit_22 rfl (wp_ifb_eq (t := 45) (q := 26) dX4_halvesFit_23 rfl rfl (fun c23 => ?_) (fun c23 => ?_))
        · refine wp_ic (q := 46) dX4_halvesFit_45 rfl (by decide) (by decide) (wp_is2 (q := 47) dX4_halvesFit_46 rfl rfl (wp_il3 (q := 48) dX4_halvesFit_47 rfl (wp_ic (q := 49) dX4_halvesFit_48 rfl (by decide) (by decide) (wp_imul (q := 50) dX4_halvesFit_49 rfl (by omega) (by omega) (wp_is3 (q := 51) dX4_halvesFit_50 rfl rfl (wp_goto (q := 4) dX4_halvesFit_51 rfl ?_))))))
          first
            | exact l8 false (nbA c23 e)
            | exact l8 false (nbF (f4 (by omega) c38) e)
            | exact l8 true (nbT c23 (t4 c38) e)
        · refine wp_al0 (q := 27) dX4_halvesFit_26 rfl (wp_il1 (q := 28) dX4_halvesFit_27 rfl (wp_ic (q := 29) dX4_halvesFit_28 rfl (by decide) (by decide) (wp_iadd (q := 30) dX4_halvesFit_29 rfl (by omega) (by omega) (wp_ic (q := 31) dX4_halvesFit_30 rfl (by decide) (by decide) (wp_il3 (q := 32) dX4_halvesFit_31 rfl (wp_imul (q := 33) dX4_halvesFit_32 rfl (by omega) (by omega) (wp_isub (q := 34) dX4_halvesFit_33 rfl (by omega) (by omega) (wp_il3 (q := 35) dX4_halvesFit_34 rfl (wp_v2I (q := 38) dX4_halvesFit_35 rfl q159 (Nat.le_of_ble_eq_true rfl) rfl m0 m1 rfl rfl ((mt_isBehind 0 hM hn8 (a := x - 7) (b := x - 3) (W := 4) (by decide) (by omega) (by omega) (by omega) (by omega)).up (by omega)) (wp_ifb_ne (t := 45) (q := 41) dX4_halvesFit_38 rfl rfl (fun c38 => ?_) (fun c38 => ?_)))))))))))
          · refine wp_ic (q := 46) dX4_halvesFit_45 rfl (by decide) (by decide) (wp_is2 (q := 47) dX4_halvesFit_46 rfl rfl (wp_il3 (q := 48) dX4_halvesFit_47 rfl (wp_ic (q := 49) dX4_halvesFit_48 rfl (by decide) (by decide) (wp_imul (q := 50) dX4_halvesFit_49 rfl (by omega) (by omega) (wp_is3 (q := 51) dX4_halvesFit_50 rfl rfl (wp_goto (q := 4) dX4_halvesFit_51 rfl ?_))))))
            first
              | exact l8 false (nbA c23 e)
              | exact l8 false (nbF (f4 (by omega) c38) e)
              | exact l8 true (nbT c23 (t4 c38) e)
          · refine wp_ic (q := 42) dX4_halvesFit_41 rfl (by decide) (by decide) (wp_goto (q := 46) dX4_halvesFit_42 rfl (wp_is2 (q := 47) dX4_halvesFit_46 rfl rfl (wp_il3 (q := 48) dX4_halvesFit_47 rfl (wp_ic (q := 49) dX4_halvesFit_48 rfl (by decide) (by decide) (wp_imul (q := 50) dX4_halvesFit_49 rfl (by omega) (by omega) (wp_is3 (q := 51) dX4_halvesFit_50 rfl rfl (wp_goto (q := 4) dX4_halvesFit_51 rfl ?_)))))))
            first
              | exact l8 false (nbA c23 e)
              | exact l8 false (nbF (f4 (by omega) c38) e)
              | exact l8 true (nbT c23 (t4 c38) e)
  have l2 : ∀ B : Bool, (B && (b2 && (b4 && true))) = T → Wp (d + 1) mX4_halvesFit 4 [mR g, mI x, mI (bI (B = true)), mI 2] [] h (0, 0) (fun r' h' => r' = some (mI (bI (T = true))) ∧ h' = h) := by
    intro B e
    refine wp_il3 (q := 5) dX4_halvesFit_4 rfl (wp_al0 (q := 6) dX4_halvesFit_5 rfl (wp_getf (q := 9) dX4_halvesFit_6 rfl f23 m0 m1 rfl (fun z => nomatch z) (wp_icmp_ge (t := 54) (q := 12) dX4_halvesFit_9 rfl rfl (fun c9 => ?_) (fun c9 => ?_))))
    · refine wp_il2 (q := 55) dX4_halvesFit_54 rfl (wp_bret dX4_halvesFit_55 rfl (by first | exact Or.inl rfl | exact Or.inr rfl | exact bI_01) ?_)
      first
        | (exfalso; omega)
        | exact ⟨rI (by rw [nbE (n2 (by omega)) (by rw [n4 (by omega)]; rfl) e]), rfl⟩
    · refine wp_il1 (q := 13) dX4_halvesFit_12 rfl (wp_ic (q := 14) dX4_halvesFit_13 rfl (by decide) (by decide) (wp_iadd (q := 15) dX4_halvesFit_14 rfl (by omega) (by omega) (wp_ic (q := 16) dX4_halvesFit_15 rfl (by decide) (by decide) (wp_il3 (q := 17) dX4_halvesFit_16 rfl (wp_imul (q := 18) dX4_halvesFit_17 rfl (by omega) (by omega) (wp_irem (q := 19) dX4_halvesFit_18 rfl (by omega) (by omega) (wp_if_ne (t := 54) (q := 22) dX4_halvesFit_19 rfl rfl (fun c19 => ?_) (fun c19 => ?_))))))))
      · refine wp_il2 (q := 55) dX4_halvesFit_54 rfl (wp_bret dX4_halvesFit_55 rfl (by first | exact Or.inl rfl | exact Or.inr rfl | exact bI_01) ?_)
        first
          | (exfalso; omega)
          | exact ⟨rI (by rw [nbE (n2 (by omega)) (by rw [n4 (by omega)]; rfl) e]), rfl⟩
      · refine wp_il2 (q := 23) dX4_halvesFit_22 rfl (wp_ifb_eq (t := 45) (q := 26) dX4_halvesFit_23 rfl rfl (fun c23 => ?_) (fun c23 => ?_))
        · refine wp_ic (q := 46) dX4_halvesFit_45 rfl (by decide) (by decide) (wp_is2 (q := 47) dX4_halvesFit_46 rfl rfl (wp_il3 (q := 48) dX4_halvesFit_47 rfl (wp_ic (q := 49) dX4_halvesFit_48 rfl (by decide) (by decide) (wp_imul (q := 50) dX4_halvesFit_49 rfl (by omega) (by omega) (wp_is3 (q := 51) dX4_halvesFit_50 rfl rfl (wp_goto (q := 4) dX4_halvesFit_51 rfl ?_))))))
          first
            | exact l4 false (nbA c23 e)
            | exact l4 false (nbF (f2 (by omega) c38) e)
            | exact l4 true (nbT c23 (t2 c38) e)
        · refine wp_al0 (q := 27) dX4_halvesFit_26 rfl (wp_il1 (q := 28) dX4_halvesFit_27 rfl (wp_ic (q := 29) dX4_halvesFit_28 rfl (by decide) (by decide) (wp_iadd (q := 30) dX4_halvesFit_29 rfl (by omega) (by omega) (wp_ic (q := 31) dX4_halvesFit_30 rfl (by decide) (by decide) (wp_il3 (q := 32) dX4_halvesFit_31 rfl (wp_imul (q := 33) dX4_halvesFit_32 rfl (by omega) (by omega) (wp_isub (q := 34) dX4_halvesFit_33 rfl (by omega) (by omega) (wp_il3 (q := 35) dX4_halvesFit_34 rfl (wp_v2I (q := 38) dX4_halvesFit_35 rfl q159 (Nat.le_of_ble_eq_true rfl) rfl m0 m1 rfl rfl ((mt_isBehind 0 hM hn8 (a := x - 3) (b := x - 1) (W := 2) (by decide) (by omega) (by omega) (by omega) (by omega)).up (by omega)) (wp_ifb_ne (t := 45) (q := 41) dX4_halvesFit_38 rfl rfl (fun c38 => ?_) (fun c38 => ?_)))))))))))
          · refine wp_ic (q := 46) dX4_halvesFit_45 rfl (by decide) (by decide) (wp_is2 (q := 47) dX4_halvesFit_46 rfl rfl (wp_il3 (q := 48) dX4_halvesFit_47 rfl (wp_ic (q := 49) dX4_halvesFit_48 rfl (by decide) (by decide) (wp_imul (q := 50) dX4_halvesFit_49 rfl (by omega) (by omega) (wp_is3 (q := 51) dX4_halvesFit_50 rfl rfl (wp_goto (q := 4) dX4_halvesFit_51 rfl ?_))))))
            first
              | exact l4 false (nbA c23 e)
              | exact l4 false (nbF (f2 (by omega) c38) e)
              | exact l4 true (nbT c23 (t2 c38) e)
          · refine wp_ic (q := 42) dX4_halvesFit_41 rfl (by decide) (by decide) (wp_goto (q := 46) dX4_halvesFit_42 rfl (wp_is2 (q := 47) dX4_halvesFit_46 rfl rfl (wp_il3 (q := 48) dX4_halvesFit_47 rfl (wp_ic (q := 49) dX4_halvesFit_48 rfl (by decide) (by decide) (wp_imul (q := 50) dX4_halvesFit_49 rfl (by omega) (by omega) (wp_is3 (q := 51) dX4_halvesFit_50 rfl rfl (wp_goto (q := 4) dX4_halvesFit_51 rfl ?_)))))))
            first
              | exact l4 false (nbA c23 e)
              | exact l4 false (nbF (f2 (by omega) c38) e)
              | exact l4 true (nbT c23 (t2 c38) e)
  have l1 : ∀ B : Bool, (B && (b1 && (b2 && (b4 && true)))) = T → Wp (d + 1) mX4_halvesFit 4 [mR g, mI x, mI (bI (B = true)), mI 1] [] h (0, 0) (fun r' h' => r' = some (mI (bI (T = true))) ∧ h' = h) := by
    intro B e
    refine wp_il3 (q := 5) dX4_halvesFit_4 rfl (wp_al0 (q := 6) dX4_halvesFit_5 rfl (wp_getf (q := 9) dX4_halvesFit_6 rfl f23 m0 m1 rfl (fun z => nomatch z) (wp_icmp_ge (t := 54) (q := 12) dX4_halvesFit_9 rfl rfl (fun c9 => ?_) (fun c9 => ?_))))
    · refine wp_il2 (q := 55) dX4_halvesFit_54 rfl (wp_bret dX4_halvesFit_55 rfl (by first | exact Or.inl rfl | exact Or.inr rfl | exact bI_01) ?_)
      first
        | (exfalso; omega)
        | exact ⟨rI (by rw [nbE (n1 (by omega)) (by rw [n2 (by omega), n4 (by omega)]; rfl) e]), rfl⟩
    · refine wp_il1 (q := 13) dX4_halvesFit_12 rfl (wp_ic (q := 14) dX4_halvesFit_13 rfl (by decide) (by decide) (wp_iadd (q := 15) dX4_halvesFit_14 rfl (by omega) (by omega) (wp_ic (q := 16) dX4_halvesFit_15 rfl (by decide) (by decide) (wp_il3 (q := 17) dX4_halvesFit_16 rfl (wp_imul (q := 18) dX4_halvesFit_17 rfl (by omega) (by omega) (wp_irem (q := 19) dX4_halvesFit_18 rfl (by omega) (by omega) (wp_if_ne (t := 54) (q := 22) dX4_halvesFit_19 rfl rfl (fun c19 => ?_) (fun c19 => ?_))))))))
      · refine wp_il2 (q := 55) dX4_halvesFit_54 rfl (wp_bret dX4_halvesFit_55 rfl (by first | exact Or.inl rfl | exact Or.inr rfl | exact bI_01) ?_)
        first
          | (exfalso; omega)
          | exact ⟨rI (by rw [nbE (n1 (by omega)) (by rw [n2 (by omega), n4 (by omega)]; rfl) e]), rfl⟩
      · refine wp_il2 (q := 23) dX4_halvesFit_22 rfl (wp_ifb_eq (t := 45) (q := 26) dX4_halvesFit_23 rfl rfl (fun c23 => ?_) (fun c23 => ?_))
        · refine wp_ic (q := 46) dX4_halvesFit_45 rfl (by decide) (by decide) (wp_is2 (q := 47) dX4_halvesFit_46 rfl rfl (wp_il3 (q := 48) dX4_halvesFit_47 rfl (wp_ic (q := 49) dX4_halvesFit_48 rfl (by decide) (by decide) (wp_imul (q := 50) dX4_halvesFit_49 rfl (by omega) (by omega) (wp_is3 (q := 51) dX4_halvesFit_50 rfl rfl (wp_goto (q := 4) dX4_halvesFit_51 rfl ?_))))))
          first
            | exact l2 false (nbA c23 e)
            | exact l2 false (nbF (f1 (by omega) c38) e)
            | exact l2 true (nbT c23 (t1 c38) e)
        · refine wp_al0 (q := 27) dX4_halvesFit_26 rfl (wp_il1 (q := 28) dX4_halvesFit_27 rfl (wp_ic (q := 29) dX4_halvesFit_28 rfl (by decide) (by decide) (wp_iadd (q := 30) dX4_halvesFit_29 rfl (by omega) (by omega) (wp_ic (q := 31) dX4_halvesFit_30 rfl (by decide) (by decide) (wp_il3 (q := 32) dX4_halvesFit_31 rfl (wp_imul (q := 33) dX4_halvesFit_32 rfl (by omega) (by omega) (wp_isub (q := 34) dX4_halvesFit_33 rfl (by omega) (by omega) (wp_il3 (q := 35) dX4_halvesFit_34 rfl (wp_v2I (q := 38) dX4_halvesFit_35 rfl q159 (Nat.le_of_ble_eq_true rfl) rfl m0 m1 rfl rfl ((mt_isBehind 0 hM hn8 (a := x - 1) (a' := x + 1 - 2 * 1) (w := 1) (b := x) (W := 1) (by decide) (by omega) (by omega) (by omega) (by omega)).up (D := d) (by omega)) (wp_ifb_ne (t := 45) (q := 41) dX4_halvesFit_38 rfl rfl (fun c38 => ?_) (fun c38 => ?_)))))))))))
          · refine wp_ic (q := 46) dX4_halvesFit_45 rfl (by decide) (by decide) (wp_is2 (q := 47) dX4_halvesFit_46 rfl rfl (wp_il3 (q := 48) dX4_halvesFit_47 rfl (wp_ic (q := 49) dX4_halvesFit_48 rfl (by decide) (by decide) (wp_imul (q := 50) dX4_halvesFit_49 rfl (by omega) (by omega) (wp_is3 (q := 51) dX4_halvesFit_50 rfl rfl (wp_goto (q := 4) dX4_halvesFit_51 rfl ?_))))))
            first
              | exact l2 false (nbA c23 e)
              | exact l2 false (nbF (f1 (by omega) c38) e)
              | exact l2 true (nbT c23 (t1 c38) e)
          · refine wp_ic (q := 42) dX4_halvesFit_41 rfl (by decide) (by decide) (wp_goto (q := 46) dX4_halvesFit_42 rfl (wp_is2 (q := 47) dX4_halvesFit_46 rfl rfl (wp_il3 (q := 48) dX4_halvesFit_47 rfl (wp_ic (q := 49) dX4_halvesFit_48 rfl (by decide) (by decide) (wp_imul (q := 50) dX4_halvesFit_49 rfl (by omega) (by omega) (wp_is3 (q := 51) dX4_halvesFit_50 rfl rfl (wp_goto (q := 4) dX4_halvesFit_51 rfl ?_)))))))
            first
              | exact l2 false (nbA c23 e)
              | exact l2 false (nbF (f1 (by omega) c38) e)
              | exact l2 true (nbT c23 (t1 c38) e)
  show Wp _ mX4_halvesFit 0 [mR g, mI x, mU, mU] [] h (0, 0) _
  refine wp_ic (q := 1) dX4_halvesFit_0 rfl (by decide) (by decide) (wp_is2 (q := 2) dX4_halvesFit_1 rfl rfl (wp_ic (q := 3) dX4_halvesFit_2 rfl (by decide) (by decide) (wp_is3 (q := 4) dX4_halvesFit_3 rfl rfl ?_)))
  exact l1 true (by rw [hT]; cases b1 <;> cases b2 <;> cases b4 <;> rfl)
theorem mt_fits (d : Nat) {h : List mC} {g n sz : Nat} {ch ro pl wm lf rt ws rw pt wh on tw : List Int} {wo wt il dr : Int} {dn : List Int} (hM : MU h g (n : Int) (sz : Int) ch ro pl wm lf rt ws rw pt wh on tw wo wt il dr dn) (hn8 : n ≤ 8) {P : Nat} (p8 : P < sz) (hrg : ∀ i : Nat, i ≤ P → 0 ≤ gI rw i ∧ gI rw i ≤ 8) : Rt (d + 2) mX4_fits [mR g, mI P] h (some (mI (bI (fitB n sz ro (gI rw) P = true)))) h := by
  obtain ⟨m0, m1, mch, map, mpl, mwm, mlf, mrt, mws, mrw, mpt, mwh, mon, mtw, mdn, lch, lap, lpl, lwm, llf, lrt, lws, lrw, lpt, lwh, lon, ltw, ldn, m8⟩ := id hM
  have fi := fitB_iff (n := n) (sz := sz) (ro := ro) (f := gI rw) (p := P)
  obtain ⟨own, ho⟩ : ∃ o, o = gI rw P := ⟨_, rfl⟩
  have r0 := hrg P (Nat.le_refl _)
  rw [← ho] at fi r0
  have eo : rw.getD (P : Int).toNat 0 = own := ho.symm
  obtain ⟨BB, hBB⟩ : ∃ B, B = fitB n sz ro (gI rw) P := ⟨_, rfl⟩
  rw [← hBB] at fi
  rw [← hBB]
  have fi2 := fun _ : Nat => fi
  clear fi
  have key : ∀ (j : Nat), j ≤ P → ∀ (c y : Int) (u5 u6 : mV), y = j → c = ecN (gI rw) j → (own ≠ 8 → ∀ i : Nat, i < j → gI rw i ≠ own ∧ (gI rw i = 8 ∨ gI ro (8 * own + gI rw i) ≤ mrA P i)) → Wp (d + 2) mX4_fits 12 [mR g, mI P, mI own, mI c, mI y, u5, u6] [] h (0, 0) (fun r' h' => r' = some (mI (bI (BB = true))) ∧ h' = h) := by
    refine loop_up P _ ?_ ?_
    · intro c y u5 u6 hy hc hk
      have hk2 := fun _ : Nat => hk
      clear hk
      refine wp_il4 (q := 14) dX4_fits_12 rfl (wp_il1 (q := 15) dX4_fits_14 rfl (wp_icmp_ge (t := 136) (q := 18) dX4_fits_15 rfl rfl (fun c15 => ?_) (fun c15 => ?_)))
      · refine wp_il2 (q := 137) dX4_fits_136 rfl (wp_bi (q := 139) dX4_fits_137 rfl (by decide) (by decide) (wp_icmp_ne (t := 155) (q := 142) dX4_fits_139 rfl rfl (fun c139 => ?_) (fun c139 => ?_)))
        · refine wp_al0 (q := 156) dX4_fits_155 rfl (wp_il1 (q := 157) dX4_fits_156 rfl (wp_v1I (q := 160) dX4_fits_157 rfl q158 (Nat.le_of_ble_eq_true rfl) rfl m0 m1 rfl rfl ((mt_halvesFit 0 hM hn8 (x := (P : Int)) (by omega) (by omega)).up (by omega)) (wp_ifb_eq (t := 167) (q := 163) dX4_fits_160 rfl rfl (fun c160 => ?_) (fun c160 => ?_))))
          · refine wp_ic (q := 168) dX4_fits_167 rfl (by decide) (by decide) (wp_bret dX4_fits_168 rfl (by first | exact Or.inl rfl | exact Or.inr rfl) ?_)
            refine ⟨rI ?_, rfl⟩
            first
              | exact (bI_t ((fi2 0).mpr ⟨by rw [if_pos c139]; omega, c160⟩)).symm
              | exact (bI_t ((fi2 0).mpr ⟨by rw [if_neg c139]; exact hk2 0 c139, c160⟩)).symm
              | exact (bI_f (fun z => c160 ((fi2 0).mp z).2)).symm
              | (have z2 := fun z => ((fi2 0).mp z).1
                 rw [if_pos c139] at z2
                 exact (bI_f (fun z => by have := z2 z; omega)).symm)
          · refine wp_ic (q := 164) dX4_fits_163 rfl (by decide) (by decide) (wp_goto (q := 168) dX4_fits_164 rfl (wp_bret dX4_fits_168 rfl (by first | exact Or.inl rfl | exact Or.inr rfl) ?_))
            refine ⟨rI ?_, rfl⟩
            first
              | exact (bI_t ((fi2 0).mpr ⟨by rw [if_pos c139]; omega, c160⟩)).symm
              | exact (bI_t ((fi2 0).mpr ⟨by rw [if_neg c139]; exact hk2 0 c139, c160⟩)).symm
              | exact (bI_f (fun z => c160 ((fi2 0).mp z).2)).symm
              | (have z2 := fun z => ((fi2 0).mp z).1
                 rw [if_pos c139] at z2
                 exact (bI_f (fun z => by have := z2 z; omega)).symm)
        · refine wp_il3 (q := 143) dX4_fits_142 rfl (wp_al0 (q := 144) dX4_fits_143 rfl (wp_getf (q := 147) dX4_fits_144 rfl f23 m0 m1 rfl (fun z => nomatch z) (wp_al0 (q := 148) dX4_fits_147 rfl (wp_getf (q := 151) dX4_fits_148 rfl f22 m0 m1 rfl (fun z => nomatch z) (wp_isub (q := 152) dX4_fits_151 rfl (by omega) (by omega) (wp_icmp_ge (t := 167) (q := 155) dX4_fits_152 rfl rfl (fun c152 => ?_) (fun c152 => ?_)))))))
          · refine wp_ic (q := 168) dX4_fits_167 rfl (by decide) (by decide) (wp_bret dX4_fits_168 rfl (by first | exact Or.inl rfl | exact Or.inr rfl) ?_)
            refine ⟨rI ?_, rfl⟩
            first
              | exact (bI_t ((fi2 0).mpr ⟨by rw [if_pos c139]; omega, c160⟩)).symm
              | exact (bI_t ((fi2 0).mpr ⟨by rw [if_neg c139]; exact hk2 0 c139, c160⟩)).symm
              | exact (bI_f (fun z => c160 ((fi2 0).mp z).2)).symm
              | (have z2 := fun z => ((fi2 0).mp z).1
                 rw [if_pos c139] at z2
                 exact (bI_f (fun z => by have := z2 z; omega)).symm)
          · refine wp_al0 (q := 156) dX4_fits_155 rfl (wp_il1 (q := 157) dX4_fits_156 rfl (wp_v1I (q := 160) dX4_fits_157 rfl q158 (Nat.le_of_ble_eq_true rfl) rfl m0 m1 rfl rfl ((mt_halvesFit 0 hM hn8 (x := (P : Int)) (by omega) (by omega)).up (by omega)) (wp_ifb_eq (t := 167) (q := 163) dX4_fits_160 rfl rfl (fun c160 => ?_) (fun c160 => ?_))))
            · refine wp_ic (q := 168) dX4_fits_167 rfl (by decide) (by decide) (wp_bret dX4_fits_168 rfl (by first | exact Or.inl rfl | exact Or.inr rfl) ?_)
              refine ⟨rI ?_, rfl⟩
              first
                | exact (bI_t ((fi2 0).mpr ⟨by rw [if_pos c139]; omega, c160⟩)).symm
                | exact (bI_t ((fi2 0).mpr ⟨by rw [if_neg c139]; exact hk2 0 c139, c160⟩)).symm
                | exact (bI_f (fun z => c160 ((fi2 0).mp z).2)).symm
                | (have z2 := fun z => ((fi2 0).mp z).1
                   rw [if_pos c139] at z2
                   exact (bI_f (fun z => by have := z2 z; omega)).symm)
            · refine wp_ic (q := 164) dX4_fits_163 rfl (by decide) (by decide) (wp_goto (q := 168) dX4_fits_164 rfl (wp_bret dX4_fits_168 rfl (by first | exact Or.inl rfl | exact Or.inr rfl) ?_))
              refine ⟨rI ?_, rfl⟩
              first
                | exact (bI_t ((fi2 0).mpr ⟨by rw [if_pos c139]; omega, c160⟩)).symm
                | exact (bI_t ((fi2 0).mpr ⟨by rw [if_neg c139]; exact hk2 0 c139, c160⟩)).symm
                | exact (bI_f (fun z => c160 ((fi2 0).mp z).2)).symm
                | (have z2 := fun z => ((fi2 0).mp z).1
                   rw [if_pos c139] at z2
                   exact (bI_f (fun z => by have := z2 z; omega)).symm)
      · exfalso; omega
    · intro j hj ih c y u5 u6 hy hc hk
      obtain ⟨fq, hfq⟩ : ∃ q, q = gI rw j := ⟨_, rfl⟩
      have rq := hrg j (by omega)
      rw [← hfq] at rq
      have eq : rw.getD y.toNat 0 = fq := by rw [hy, hfq]; rfl
      have e1 : ecN (gI rw) (j + 1) = ecN (gI rw) j + bI (fq = 8) := by rw [hfq]; rfl
      have bo := sumB_in (p := fun i : Nat => gI rw i = 8) j
      have bo2 : 0 ≤ ecN (gI rw) j ∧ ecN (gI rw) j ≤ j := bo
      rw [← hc] at e1 bo2
      clear bo
      have h110 : ∀ (u5 u6 : mV), (own ≠ 8 → fq ≠ own ∧ (fq = 8 ∨ gI ro (8 * own + fq) ≤ mrA P j)) → Wp (d + 2) mX4_fits 110 [mR g, mI P, mI own, mI c, mI y, u5, u6] [] h (0, 0) (fun r' h' => r' = some (mI (bI (BB = true))) ∧ h' = h) := by
        intro u5 u6 hg
        have hk3 : own ≠ 8 → ∀ i : Nat, i < j + 1 → gI rw i ≠ own ∧ (gI rw i = 8 ∨ gI ro (8 * own + gI rw i) ≤ mrA P i) := fun a i hi => by
          by_cases e : i = j
          · subst e; rw [← hfq]; exact hg a
          · exact hk a i (by omega)
        clear hg hk
        refine wp_il3 (q := 111) dX4_fits_110 rfl (wp_al0 (q := 112) dX4_fits_111 rfl (wp_getf (q := 115) dX4_fits_112 rfl f31 m0 m1 rfl (fun z => nomatch z) (wp_il4 (q := 117) dX4_fits_115 rfl (wp_iaload (q := 118) dX4_fits_117 rfl mrw (by omega) (by omega) ?_))))
        rw [eq]
        refine wp_bi (q := 120) dX4_fits_118 rfl (by decide) (by decide) (wp_icmp_ne (t := 127) (q := 123) dX4_fits_120 rfl rfl (fun c120 => ?_) (fun c120 => ?_))
        · rw [bI_f c120] at e1
          refine wp_ic (q := 128) dX4_fits_127 rfl (by decide) (by decide) (wp_iadd (q := 129) dX4_fits_128 rfl (by omega) (by omega) (wp_is3 (q := 130) dX4_fits_129 rfl rfl (wp_ii4 (q := 133) dX4_fits_130 rfl rfl (by omega) (by omega) (wp_goto (q := 12) dX4_fits_133 rfl ?_))))
          exact ih _ _ _ _ (by omega) (by rw [e1]) hk3
        · rw [bI_t c120] at e1
          refine wp_ic (q := 124) dX4_fits_123 rfl (by decide) (by decide) (wp_goto (q := 128) dX4_fits_124 rfl (wp_iadd (q := 129) dX4_fits_128 rfl (by omega) (by omega) (wp_is3 (q := 130) dX4_fits_129 rfl rfl (wp_ii4 (q := 133) dX4_fits_130 rfl rfl (by omega) (by omega) (wp_goto (q := 12) dX4_fits_133 rfl ?_)))))
          exact ih _ _ _ _ (by omega) (by rw [e1]) hk3
      have h98 : ∀ a b : Int, (a = bI (fq = own ∧ own ≠ 8)) → (b = bI (own ≠ 8 ∧ fq ≠ 8 ∧ fq ≠ own ∧ mrA P j < gI ro (8 * own + fq))) → Wp (d + 2) mX4_fits 98 [mR g, mI P, mI own, mI c, mI y, mI a, mI b] [] h (0, 0) (fun r' h' => r' = some (mI (bI (BB = true))) ∧ h' = h) := by
        intro a b ha hb
        have z2 : BB = true → own ≠ 8 → gI rw j ≠ own ∧ (gI rw j = 8 ∨ gI ro (8 * own + gI rw j) ≤ mrA P j) := fun z o8 => by
          have z3 := ((fi2 0).mp z).1
          rw [if_neg o8] at z3
          exact z3 j hj
        rw [← hfq] at z2
        have h110' := fun _ : Nat => h110
        have z3 := fun _ : Nat => z2
        clear h110 z2 hk
        refine wp_il5 (q := 100) dX4_fits_98 rfl (wp_if_ne (t := 108) (q := 103) dX4_fits_100 rfl rfl (fun c100 => ?_) (fun c100 => ?_))
        · refine wp_ic (q := 109) dX4_fits_108 rfl (by decide) (by decide) (wp_bret dX4_fits_109 rfl (Or.inl rfl) ?_)
          refine ⟨rI ?_, rfl⟩
          first
            | (have q1 : fq = own ∧ own ≠ 8 := Decidable.byContradiction (fun z => by rw [bI_f z] at ha; omega)
               exact (bI_f (fun z => ((z3 0) z q1.2).1 q1.1)).symm)
            | (have q2 : own ≠ 8 ∧ fq ≠ 8 ∧ fq ≠ own ∧ mrA P j < gI ro (8 * own + fq) := Decidable.byContradiction (fun z => by rw [bI_f z] at hb; omega)
               exact (bI_f (fun z => by have := ((z3 0) z q2.1).2; omega)).symm)
        · refine wp_il6 (q := 105) dX4_fits_103 rfl (wp_if_eq (t := 110) (q := 108) dX4_fits_105 rfl rfl (fun c105 => ?_) (fun c105 => ?_))
          · refine h110' 0 _ _ (fun o8 => ?_)
            have q1 : ¬ (fq = own ∧ own ≠ 8) := fun z => by rw [bI_t z] at ha; omega
            have q2 : ¬ (own ≠ 8 ∧ fq ≠ 8 ∧ fq ≠ own ∧ mrA P j < gI ro (8 * own + fq)) := fun z => by rw [bI_t z] at hb; omega
            clear z3 h110'
            omega
          · refine wp_ic (q := 109) dX4_fits_108 rfl (by decide) (by decide) (wp_bret dX4_fits_109 rfl (Or.inl rfl) ?_)
            refine ⟨rI ?_, rfl⟩
            first
              | (have q1 : fq = own ∧ own ≠ 8 := Decidable.byContradiction (fun z => by rw [bI_f z] at ha; omega)
                 exact (bI_f (fun z => ((z3 0) z q1.2).1 q1.1)).symm)
              | (have q2 : own ≠ 8 ∧ fq ≠ 8 ∧ fq ≠ own ∧ mrA P j < gI ro (8 * own + fq) := Decidable.byContradiction (fun z => by rw [bI_f z] at hb; omega)
                 exact (bI_f (fun z => by have := ((z3 0) z q2.1).2; omega)).symm)
      have ea : Nat → own ≠ 8 → fq ≠ 8 → ro.getD (8 * own + fq).toNat 0 = gI ro (8 * own + fq) := fun _ _ _ => rfl
      clear hk h110 fi2 ih
      refine wp_il4 (q := 14) dX4_fits_12 rfl (wp_il1 (q := 15) dX4_fits_14 rfl (wp_icmp_ge (t := 136) (q := 18) dX4_fits_15 rfl rfl (fun c15 => ?_) (fun c15 => ?_)))
      · exfalso; omega
      · refine wp_al0 (q := 19) dX4_fits_18 rfl (wp_getf (q := 22) dX4_fits_19 rfl f31 m0 m1 rfl (fun z => nomatch z) (wp_il4 (q := 24) dX4_fits_22 rfl (wp_iaload (q := 25) dX4_fits_24 rfl mrw (by omega) (by omega) ?_)))
        rw [eq]
        refine wp_il2 (q := 26) dX4_fits_25 rfl (wp_icmp_ne (t := 39) (q := 29) dX4_fits_26 rfl rfl (fun c26 => ?_) (fun c26 => ?_))
        · refine wp_ic (q := 40) dX4_fits_39 rfl (by decide) (by decide) (wp_is5 (q := 42) dX4_fits_40 rfl rfl (wp_il2 (q := 43) dX4_fits_42 rfl (wp_bi (q := 45) dX4_fits_43 rfl (by decide) (by decide) (wp_icmp_eq (t := 95) (q := 48) dX4_fits_45 rfl rfl (fun c45 => ?_) (fun c45 => ?_)))))
          · refine wp_ic (q := 96) dX4_fits_95 rfl (by decide) (by decide) (wp_is6 (q := 98) dX4_fits_96 rfl rfl ?_)
            exact h98 _ _ (by first | exact (bI_t (by omega)).symm | exact (bI_f (by omega)).symm) (by first | exact (bI_t (by omega)).symm | exact (bI_f (by omega)).symm)
          · refine wp_al0 (q := 49) dX4_fits_48 rfl (wp_getf (q := 52) dX4_fits_49 rfl f31 m0 m1 rfl (fun z => nomatch z) (wp_il4 (q := 54) dX4_fits_52 rfl (wp_iaload (q := 55) dX4_fits_54 rfl mrw (by omega) (by omega) ?_)))
            rw [eq]
            refine wp_bi (q := 57) dX4_fits_55 rfl (by decide) (by decide) (wp_icmp_eq (t := 95) (q := 60) dX4_fits_57 rfl rfl (fun c57 => ?_) (fun c57 => ?_))
            · refine wp_ic (q := 96) dX4_fits_95 rfl (by decide) (by decide) (wp_is6 (q := 98) dX4_fits_96 rfl rfl ?_)
              exact h98 _ _ (by first | exact (bI_t (by omega)).symm | exact (bI_f (by omega)).symm) (by first | exact (bI_t (by omega)).symm | exact (bI_f (by omega)).symm)
            · refine wp_il5 (q := 62) dX4_fits_60 rfl (wp_if_ne (t := 95) (q := 65) dX4_fits_62 rfl rfl (fun c62 => ?_) (fun c62 => ?_))
              · refine wp_ic (q := 96) dX4_fits_95 rfl (by decide) (by decide) (wp_is6 (q := 98) dX4_fits_96 rfl rfl ?_)
                exact h98 _ _ (by first | exact (bI_t (by omega)).symm | exact (bI_f (by omega)).symm) (by first | exact (bI_t (by omega)).symm | exact (bI_f (by omega)).symm)
              · refine wp_il1 (q := 66) dX4_fits_65 rfl (wp_il4 (q := 68) dX4_fits_66 rfl (wp_s2I (q := 71) dX4_fits_68 rfl q153 (Nat.le_of_ble_eq_true rfl) rfl rfl rfl (by have z := (mt_meetRound 0 (h := h) (x := (P : Int)) (y := y) (by omega) (by omega) (by omega) (by omega)).up (D := d + 1) (by omega); rw [hy] at z ⊢; exact z) (wp_al0 (q := 72) dX4_fits_71 rfl (wp_getf (q := 75) dX4_fits_72 rfl f25 m0 m1 rfl (fun z => nomatch z) (wp_bi (q := 77) dX4_fits_75 rfl (by decide) (by decide) (wp_il2 (q := 78) dX4_fits_77 rfl (wp_imul (q := 79) dX4_fits_78 rfl (by omega) (by omega) (wp_al0 (q := 80) dX4_fits_79 rfl (wp_getf (q := 83) dX4_fits_80 rfl f31 m0 m1 rfl (fun z => nomatch z) (wp_il4 (q := 85) dX4_fits_83 rfl (wp_iaload (q := 86) dX4_fits_85 rfl mrw (by omega) (by omega) ?_)))))))))))
                rw [eq]
                refine wp_iadd (q := 87) dX4_fits_86 rfl (by omega) (by omega) (wp_iaload (q := 88) dX4_fits_87 rfl map (by omega) (by omega) ?_)
                rw [ea 0 (by omega) (by omega)]
                refine wp_icmp_ge (t := 95) (q := 91) dX4_fits_88 rfl rfl (fun c88 => ?_) (fun c88 => ?_)
                · refine wp_ic (q := 96) dX4_fits_95 rfl (by decide) (by decide) (wp_is6 (q := 98) dX4_fits_96 rfl rfl ?_)
                  exact h98 _ _ (by first | exact (bI_t (by omega)).symm | exact (bI_f (by omega)).symm) (by first | exact (bI_t (by omega)).symm | exact (bI_f (by omega)).symm)
                · refine wp_ic (q := 92) dX4_fits_91 rfl (by decide) (by decide) (wp_goto (q := 96) dX4_fits_92 rfl (wp_is6 (q := 98) dX4_fits_96 rfl rfl ?_))
                  exact h98 _ _ (by first | exact (bI_t (by omega)).symm | exact (bI_f (by omega)).symm) (by first | exact (bI_t (by omega)).symm | exact (bI_f (by omega)).symm)
        · refine wp_il2 (q := 30) dX4_fits_29 rfl (wp_bi (q := 32) dX4_fits_30 rfl (by decide) (by decide) (wp_icmp_eq (t := 39) (q := 35) dX4_fits_32 rfl rfl (fun c32 => ?_) (fun c32 => ?_)))
          · refine wp_ic (q := 40) dX4_fits_39 rfl (by decide) (by decide) (wp_is5 (q := 42) dX4_fits_40 rfl rfl (wp_il2 (q := 43) dX4_fits_42 rfl (wp_bi (q := 45) dX4_fits_43 rfl (by decide) (by decide) (wp_icmp_eq (t := 95) (q := 48) dX4_fits_45 rfl rfl (fun c45 => ?_) (fun c45 => ?_)))))
            · refine wp_ic (q := 96) dX4_fits_95 rfl (by decide) (by decide) (wp_is6 (q := 98) dX4_fits_96 rfl rfl ?_)
              exact h98 _ _ (by first | exact (bI_t (by omega)).symm | exact (bI_f (by omega)).symm) (by first | exact (bI_t (by omega)).symm | exact (bI_f (by omega)).symm)
            · refine wp_al0 (q := 49) dX4_fits_48 rfl (wp_getf (q := 52) dX4_fits_49 rfl f31 m0 m1 rfl (fun z => nomatch z) (wp_il4 (q := 54) dX4_fits_52 rfl (wp_iaload (q := 55) dX4_fits_54 rfl mrw (by omega) (by omega) ?_)))
              rw [eq]
              refine wp_bi (q := 57) dX4_fits_55 rfl (by decide) (by decide) (wp_icmp_eq (t := 95) (q := 60) dX4_fits_57 rfl rfl (fun c57 => ?_) (fun c57 => ?_))
              · refine wp_ic (q := 96) dX4_fits_95 rfl (by decide) (by decide) (wp_is6 (q := 98) dX4_fits_96 rfl rfl ?_)
                exact h98 _ _ (by first | exact (bI_t (by omega)).symm | exact (bI_f (by omega)).symm) (by first | exact (bI_t (by omega)).symm | exact (bI_f (by omega)).symm)
              · refine wp_il5 (q := 62) dX4_fits_60 rfl (wp_if_ne (t := 95) (q := 65) dX4_fits_62 rfl rfl (fun c62 => ?_) (fun c62 => ?_))
                · refine wp_ic (q := 96) dX4_fits_95 rfl (by decide) (by decide) (wp_is6 (q := 98) dX4_fits_96 rfl rfl ?_)
                  exact h98 _ _ (by first | exact (bI_t (by omega)).symm | exact (bI_f (by omega)).symm) (by first | exact (bI_t (by omega)).symm | exact (bI_f (by omega)).symm)
                · refine wp_il1 (q := 66) dX4_fits_65 rfl (wp_il4 (q := 68) dX4_fits_66 rfl (wp_s2I (q := 71) dX4_fits_68 rfl q153 (Nat.le_of_ble_eq_true rfl) rfl rfl rfl (by have z := (mt_meetRound 0 (h := h) (x := (P : Int)) (y := y) (by omega) (by omega) (by omega) (by omega)).up (D := d + 1) (by omega); rw [hy] at z ⊢; exact z) (wp_al0 (q := 72) dX4_fits_71 rfl (wp_getf (q := 75) dX4_fits_72 rfl f25 m0 m1 rfl (fun z => nomatch z) (wp_bi (q := 77) dX4_fits_75 rfl (by decide) (by decide) (wp_il2 (q := 78) dX4_fits_77 rfl (wp_imul (q := 79) dX4_fits_78 rfl (by omega) (by omega) (wp_al0 (q := 80) dX4_fits_79 rfl (wp_getf (q := 83) dX4_fits_80 rfl f31 m0 m1 rfl (fun z => nomatch z) (wp_il4 (q := 85) dX4_fits_83 rfl (wp_iaload (q := 86) dX4_fits_85 rfl mrw (by omega) (by omega) ?_)))))))))))
                  rw [eq]
                  refine wp_iadd (q := 87) dX4_fits_86 rfl (by omega) (by omega) (wp_iaload (q := 88) dX4_fits_87 rfl map (by omega) (by omega) ?_)
                  rw [ea 0 (by omega) (by omega)]
                  refine wp_icmp_ge (t := 95) (q := 91) dX4_fits_88 rfl rfl (fun c88 => ?_) (fun c88 => ?_)
                  · refine wp_ic (q := 96) dX4_fits_95 rfl (by decide) (by decide) (wp_is6 (q := 98) dX4_fits_96 rfl rfl ?_)
                    exact h98 _ _ (by first | exact (bI_t (by omega)).symm | exact (bI_f (by omega)).symm) (by first | exact (bI_t (by omega)).symm | exact (bI_f (by omega)).symm)
                  · refine wp_ic (q := 92) dX4_fits_91 rfl (by decide) (by decide) (wp_goto (q := 96) dX4_fits_92 rfl (wp_is6 (q := 98) dX4_fits_96 rfl rfl ?_))
                    exact h98 _ _ (by first | exact (bI_t (by omega)).symm | exact (bI_f (by omega)).symm) (by first | exact (bI_t (by omega)).symm | exact (bI_f (by omega)).symm)
          · refine wp_ic (q := 36) dX4_fits_35 rfl (by decide) (by decide) (wp_goto (q := 40) dX4_fits_36 rfl (wp_is5 (q := 42) dX4_fits_40 rfl rfl (wp_il2 (q := 43) dX4_fits_42 rfl (wp_bi (q := 45) dX4_fits_43 rfl (by decide) (by decide) (wp_icmp_eq (t := 95) (q := 48) dX4_fits_45 rfl rfl (fun c45 => ?_) (fun c45 => ?_))))))
            · refine wp_ic (q := 96) dX4_fits_95 rfl (by decide) (by decide) (wp_is6 (q := 98) dX4_fits_96 rfl rfl ?_)
              exact h98 _ _ (by first | exact (bI_t (by omega)).symm | exact (bI_f (by omega)).symm) (by first | exact (bI_t (by omega)).symm | exact (bI_f (by omega)).symm)
            · refine wp_al0 (q := 49) dX4_fits_48 rfl (wp_getf (q := 52) dX4_fits_49 rfl f31 m0 m1 rfl (fun z => nomatch z) (wp_il4 (q := 54) dX4_fits_52 rfl (wp_iaload (q := 55) dX4_fits_54 rfl mrw (by omega) (by omega) ?_)))
              rw [eq]
              refine wp_bi (q := 57) dX4_fits_55 rfl (by decide) (by decide) (wp_icmp_eq (t := 95) (q := 60) dX4_fits_57 rfl rfl (fun c57 => ?_) (fun c57 => ?_))
              · refine wp_ic (q := 96) dX4_fits_95 rfl (by decide) (by decide) (wp_is6 (q := 98) dX4_fits_96 rfl rfl ?_)
                exact h98 _ _ (by first | exact (bI_t (by omega)).symm | exact (bI_f (by omega)).symm) (by first | exact (bI_t (by omega)).symm | exact (bI_f (by omega)).symm)
              · refine wp_il5 (q := 62) dX4_fits_60 rfl (wp_if_ne (t := 95) (q := 65) dX4_fits_62 rfl rfl (fun c62 => ?_) (fun c62 => ?_))
                · refine wp_ic (q := 96) dX4_fits_95 rfl (by decide) (by decide) (wp_is6 (q := 98) dX4_fits_96 rfl rfl ?_)
                  exact h98 _ _ (by first | exact (bI_t (by omega)).symm | exact (bI_f (by omega)).symm) (by first | exact (bI_t (by omega)).symm | exact (bI_f (by omega)).symm)
                · refine wp_il1 (q := 66) dX4_fits_65 rfl (wp_il4 (q := 68) dX4_fits_66 rfl (wp_s2I (q := 71) dX4_fits_68 rfl q153 (Nat.le_of_ble_eq_true rfl) rfl rfl rfl (by have z := (mt_meetRound 0 (h := h) (x := (P : Int)) (y := y) (by omega) (by omega) (by omega) (by omega)).up (D := d + 1) (by omega); rw [hy] at z ⊢; exact z) (wp_al0 (q := 72) dX4_fits_71 rfl (wp_getf (q := 75) dX4_fits_72 rfl f25 m0 m1 rfl (fun z => nomatch z) (wp_bi (q := 77) dX4_fits_75 rfl (by decide) (by decide) (wp_il2 (q := 78) dX4_fits_77 rfl (wp_imul (q := 79) dX4_fits_78 rfl (by omega) (by omega) (wp_al0 (q := 80) dX4_fits_79 rfl (wp_getf (q := 83) dX4_fits_80 rfl f31 m0 m1 rfl (fun z => nomatch z) (wp_il4 (q := 85) dX4_fits_83 rfl (wp_iaload (q := 86) dX4_fits_85 rfl mrw (by omega) (by omega) ?_)))))))))))
                  rw [eq]
                  refine wp_iadd (q := 87) dX4_fits_86 rfl (by omega) (by omega) (wp_iaload (q := 88) dX4_fits_87 rfl map (by omega) (by omega) ?_)
                  rw [ea 0 (by omega) (by omega)]
                  refine wp_icmp_ge (t := 95) (q := 91) dX4_fits_88 rfl rfl (fun c88 => ?_) (fun c88 => ?_)
                  · refine wp_ic (q := 96) dX4_fits_95 rfl (by decide) (by decide) (wp_is6 (q := 98) dX4_fits_96 rfl rfl ?_)
                    exact h98 _ _ (by first | exact (bI_t (by omega)).symm | exact (bI_f (by omega)).symm) (by first | exact (bI_t (by omega)).symm | exact (bI_f (by omega)).symm)
                  · refine wp_ic (q := 92) dX4_fits_91 rfl (by decide) (by decide) (wp_goto (q := 96) dX4_fits_92 rfl (wp_is6 (q := 98) dX4_fits_96 rfl rfl ?_))
                    exact h98 _ _ (by first | exact (bI_t (by omega)).symm | exact (bI_f (by omega)).symm) (by first | exact (bI_t (by omega)).symm | exact (bI_f (by omega)).symm)
  show Wp _ mX4_fits 0 [mR g, mI P, mU, mU, mU, mU, mU] [] h (0, 0) _
  refine wp_al0 (q := 1) dX4_fits_0 rfl (wp_getf (q := 4) dX4_fits_1 rfl f31 m0 m1 rfl (fun z => nomatch z) (wp_il1 (q := 5) dX4_fits_4 rfl (wp_iaload (q := 6) dX4_fits_5 rfl mrw (by omega) (by omega) ?_)))
  rw [eo]
  refine wp_is2 (q := 7) dX4_fits_6 rfl rfl (wp_ic (q := 8) dX4_fits_7 rfl (by decide) (by decide) (wp_is3 (q := 9) dX4_fits_8 rfl rfl (wp_ic (q := 10) dX4_fits_9 rfl (by decide) (by decide) (wp_is4 (q := 12) dX4_fits_10 rfl rfl ?_))))
  exact key 0 (Nat.zero_le _) 0 0 _ _ rfl rfl (fun _ i hi => absurd hi (Nat.not_lt_zero i))
theorem mt_keep (d : Nat) {h : List mC} {g n sz : Nat} {ch ro pl wm lf rt ws rw pt wh on tw : List Int} {wo wt il dr : Int} {dn : List Int} (hM : MU h g (n : Int) (sz : Int) ch ro pl wm lf rt ws rw pt wh on tw wo wt il dr dn) (hn8 : n ≤ 8) (d0 : 0 ≤ dr) (d1 : dr < 400) : Ct (d + 0) mX4_keep [mR g] h (fun r9 h9 => r9 = none ∧ (∃ dn' : List Int, MU h9 g (n : Int) (sz : Int) ch ro pl wm lf rt ws rw pt wh on tw wo wt il (dr + 1) dn' ∧ (∀ q : Int, 0 ≤ q → q < 8 → gI dn' (8 * dr + q) = if q < sz then gI rw q else 8) ∧ ∀ t : Int, 0 ≤ t → t < 8 * dr → gI dn' t = gI dn t) ∧ ∀ j : Nat, (j < g ∨ g + 14 ≤ j) → h9[j]? = h[j]?) := by
  have key : ∀ j : Nat, j ≤ 8 → ∀ (h1 : List mC) (dn1 : List Int) (x : Int), x = j → MU h1 g (n : Int) (sz : Int) ch ro pl wm lf rt ws rw pt wh on tw wo wt il dr dn1 → (∀ q : Int, 0 ≤ q → q < x → gI dn1 (8 * dr + q) = if q < sz then gI rw q else 8) → (∀ t : Int, 0 ≤ t → t < 8 * dr → gI dn1 t = gI dn t) → (∀ j : Nat, (j < g ∨ g + 14 ≤ j) → h1[j]? = h[j]?) → Wp (d + 0) mX4_keep 2 [mR g, mI x] [] h1 (0, 0) (fun r9 h9 => r9 = none ∧ (∃ dn' : List Int, MU h9 g (n : Int) (sz : Int) ch ro pl wm lf rt ws rw pt wh on tw wo wt il (dr + 1) dn' ∧ (∀ q : Int, 0 ≤ q → q < 8 → gI dn' (8 * dr + q) = if q < sz then gI rw q else 8) ∧ ∀ t : Int, 0 ≤ t → t < 8 * dr → gI dn' t = gI dn t) ∧ ∀ j : Nat, (j < g ∨ g + 14 ≤ j) → h9[j]? = h[j]?) := by
    refine loop_up 8 _ ?_ ?_
    · intro h1 dn1 x hx hM hw hw2 hf
      obtain ⟨m0, m1, mch, map, mpl, mwm, mlf, mrt, mws, mrw, mpt, mwh, mon, mtw, mdn, lch, lap, lpl, lwm, llf, lrt, lws, lrw, lpt, lwh, lon, ltw, ldn, m8⟩ := id hM
      refine wp_il1 (q := 3) dX4_keep_2 rfl (wp_bi (q := 5) dX4_keep_3 rfl (by decide) (by decide) (wp_icmp_ge (t := 47) (q := 8) dX4_keep_5 rfl rfl (fun c5 => ?_) (fun c5 => ?_)))
      · refine wp_al0 (q := 48) dX4_keep_47 rfl (wp_dupR (q := 49) dX4_keep_48 rfl (wp_getf (q := 52) dX4_keep_49 rfl f39 m0 m1 rfl (fun z => nomatch z) (wp_ic (q := 53) dX4_keep_52 rfl (by decide) (by decide) (wp_iadd (q := 54) dX4_keep_53 rfl (by omega) (by omega) (wp_putf (q := 57) dX4_keep_54 rfl f39 m0 m1 (Nat.le_of_ble_eq_true rfl) trivial (fun z => absurd z (by decide)) (wp_vret dX4_keep_57 rfl ?_))))))
        exact ⟨rfl, ⟨dn1, hM.sDr, fun q q0 q1 => hw q q0 (by omega), hw2⟩, fun j hj => by rw [fr_set (by omega)]; exact hf j hj⟩
      · exfalso; omega
    · intro j hj ih h1 dn1 x hx hM hw hw2 hf
      obtain ⟨m0, m1, mch, map, mpl, mwm, mlf, mrt, mws, mrw, mpt, mwh, mon, mtw, mdn, lch, lap, lpl, lwm, llf, lrt, lws, lrw, lpt, lwh, lon, ltw, ldn, m8⟩ := id hM
      have hst : ∀ v : Int, v = (if x < sz then gI rw x else 8) → Wp (d + 0) mX4_keep 40 [mR g, mI x] [mI v, mI (8 * dr + x), mR (g + 13)] h1 (0, 0) (fun r9 h9 => r9 = none ∧ (∃ dn' : List Int, MU h9 g (n : Int) (sz : Int) ch ro pl wm lf rt ws rw pt wh on tw wo wt il (dr + 1) dn' ∧ (∀ q : Int, 0 ≤ q → q < 8 → gI dn' (8 * dr + q) = if q < sz then gI rw q else 8) ∧ ∀ t : Int, 0 ≤ t → t < 8 * dr → gI dn' t = gI dn t) ∧ ∀ j : Nat, (j < g ∨ g + 14 ≤ j) → h9[j]? = h[j]?) := by
        intro v hv
        refine wp_iastore (q := 41) dX4_keep_40 rfl (by omega) mdn (by omega) (by omega) (wp_ii1 (q := 44) dX4_keep_41 rfl rfl (by omega) (by omega) (wp_goto (q := 2) dX4_keep_44 rfl ?_))
        refine ih _ (sI dn1 (8 * dr + x) v) _ (by omega) (hM.sDn ((sI_len _ _ _).trans ldn)) (fun q q0 q1 => ?_) (fun t t0 t1 => ?_) (fun j hj => by rw [fr_set (by omega)]; exact hf j hj)
        · by_cases e : q = x
          · rw [e, gI_eq (by omega) (by omega)]; exact hv
          · rw [gI_ne (by omega) (by omega) (by omega)]; exact hw q q0 (by omega)
        · rw [gI_ne (by omega) t0 (by omega)]; exact hw2 t t0 t1
      refine wp_il1 (q := 3) dX4_keep_2 rfl (wp_bi (q := 5) dX4_keep_3 rfl (by decide) (by decide) (wp_icmp_ge (t := 47) (q := 8) dX4_keep_5 rfl rfl (fun c5 => ?_) (fun c5 => ?_)))
      · exfalso; omega
      · refine wp_al0 (q := 9) dX4_keep_8 rfl (wp_getf (q := 12) dX4_keep_9 rfl f40 m0 m1 rfl (fun z => nomatch z) (wp_bi (q := 14) dX4_keep_12 rfl (by decide) (by decide) (wp_al0 (q := 15) dX4_keep_14 rfl (wp_getf (q := 18) dX4_keep_15 rfl f39 m0 m1 rfl (fun z => nomatch z) (wp_imul (q := 19) dX4_keep_18 rfl (by omega) (by omega) (wp_il1 (q := 20) dX4_keep_19 rfl (wp_iadd (q := 21) dX4_keep_20 rfl (by omega) (by omega) (wp_il1 (q := 22) dX4_keep_21 rfl (wp_al0 (q := 23) dX4_keep_22 rfl (wp_getf (q := 26) dX4_keep_23 rfl f23 m0 m1 rfl (fun z => nomatch z) (wp_icmp_ge (t := 38) (q := 29) dX4_keep_26 rfl rfl (fun c26 => ?_) (fun c26 => ?_))))))))))))
        · refine wp_bi (q := 40) dX4_keep_38 rfl (by decide) (by decide) ?_
          first
            | exact hst _ (if_neg (by omega)).symm
            | exact hst _ (show _ = ite _ _ _ from (if_pos (by omega)).symm)
        · refine wp_al0 (q := 30) dX4_keep_29 rfl (wp_getf (q := 33) dX4_keep_30 rfl f31 m0 m1 rfl (fun z => nomatch z) (wp_il1 (q := 34) dX4_keep_33 rfl (wp_iaload (q := 35) dX4_keep_34 rfl mrw (by omega) (by omega) (wp_goto (q := 40) dX4_keep_35 rfl ?_))))
          first
            | exact hst _ (if_neg (by omega)).symm
            | exact hst _ (show _ = ite _ _ _ from (if_pos (by omega)).symm)
  show Wp _ mX4_keep 0 [mR g, mU] [] h (0, 0) _
  refine wp_ic (q := 1) dX4_keep_0 rfl (by decide) (by decide) (wp_is1 (q := 2) dX4_keep_1 rfl rfl ?_)
  exact key 0 (Nat.zero_le _) h dn 0 rfl hM (fun q q0 q1 => by omega) (fun _ _ _ => rfl) (fun _ _ => rfl)
