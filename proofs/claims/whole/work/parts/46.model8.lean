/-! the model: told, layPlaces, hasAny (rows laid by wip/whole) -/
theorem gcd_dv {a b : Int} : (0 : Int) < b → (0 : Int) < (Int.gcd a b : Nat) := fun hb => by
  have : 0 < Int.gcd a b := Int.gcd_pos_of_ne_zero_right _ (by omega)
  omega
/-- told: a fraction in least terms, by the same measure as ours -/
theorem mt_told (d : Nat) {h : List mC} {a b : Int} {up : Prop} [Decidable up] (ha : 0 ≤ a) (hb : 0 < b) : Rt (d + 0) mX4_told [mL a, mL b, mI (bI up)] h (some (mL (fcA a b up))) h := by
  have hg := gcd_dv (a := a) hb
  have key : ∀ (m : Nat) (x y : Int) (u : mV), 0 ≤ x → 0 ≤ y → y < m → Int.gcd x y = Int.gcd a b → Wp (d + 0) mX4_told 6 [mL a, mU, mL b, mU, mI (bI up), mL x, mU, mL y, mU, u, mU] [] h (0, 0) (fun r' h' => r' = some (mL (fcA a b up)) ∧ h' = h) := by
    intro m
    induction m with
    | zero => intro x y u h1 h2 h3; omega
    | succ m ih =>
      intro x y u hx hy hm hgx
      by_cases hz : y = 0
      · subst hz
        have hxg : x = (Int.gcd a b : Nat) := by rw [← hgx, Int.gcd_zero_right]; omega
        rw [hxg]
        refine wp_ll7 (q := 8) dX4_told_6 rfl (wp_lc0 (q := 9) dX4_told_8 rfl (wp_lcmp_eq (q1 := 10) (t := 31) (q := 13) dX4_told_9 rfl dX4_told_10 rfl rfl (fun c10 => ?_) (fun c10 => ?_)))
        · refine wp_ll0 (q := 32) dX4_told_31 rfl (wp_lc0 (q := 33) dX4_told_32 rfl (wp_lcmp_ne (q1 := 34) (t := 50) (q := 37) dX4_told_33 rfl dX4_told_34 rfl rfl (fun c34 => ?_) (fun c34 => ?_)))
          · refine wp_il4 (q := 52) dX4_told_50 rfl (wp_ifb_eq (t := 62) (q := 55) dX4_told_52 rfl rfl (fun c52 => ?_) (fun c52 => ?_))
            · refine wp_ll2 (q := 63) dX4_told_62 rfl (wp_ll5 (q := 65) dX4_told_63 rfl (wp_ldiv (q := 66) dX4_told_65 rfl (by omega) (by omega) (wp_lret dX4_told_66 rfl ?_)))
              refine ⟨rJ ?_, rfl⟩
              unfold fcA
              first
                | (rw [if_pos c39, c34, Int.zero_ediv])
                | (rw [if_neg c39, c34, Int.gcd_zero_left, show ((b.natAbs : Nat) : Int) = b by omega, Int.ediv_self (by omega)])
                | rw [if_pos c52]
                | rw [if_neg c52]
            · refine wp_ll0 (q := 56) dX4_told_55 rfl (wp_ll5 (q := 58) dX4_told_56 rfl (wp_ldiv (q := 59) dX4_told_58 rfl (by omega) (by omega) (wp_goto (q := 66) dX4_told_59 rfl (wp_lret dX4_told_66 rfl ?_))))
              refine ⟨rJ ?_, rfl⟩
              unfold fcA
              first
                | (rw [if_pos c39, c34, Int.zero_ediv])
                | (rw [if_neg c39, c34, Int.gcd_zero_left, show ((b.natAbs : Nat) : Int) = b by omega, Int.ediv_self (by omega)])
                | rw [if_pos c52]
                | rw [if_neg c52]
          · refine wp_il4 (q := 39) dX4_told_37 rfl (wp_ifb_eq (t := 46) (q := 42) dX4_told_39 rfl rfl (fun c39 => ?_) (fun c39 => ?_))
            · refine wp_lc1 (q := 47) dX4_told_46 rfl (wp_goto (q := 66) dX4_told_47 rfl (wp_lret dX4_told_66 rfl ?_))
              refine ⟨rJ ?_, rfl⟩
              unfold fcA
              first
                | (rw [if_pos c39, c34, Int.zero_ediv])
                | (rw [if_neg c39, c34, Int.gcd_zero_left, show ((b.natAbs : Nat) : Int) = b by omega, Int.ediv_self (by omega)])
                | rw [if_pos c52]
                | rw [if_neg c52]
            · refine wp_lc0 (q := 43) dX4_told_42 rfl (wp_goto (q := 66) dX4_told_43 rfl (wp_lret dX4_told_66 rfl ?_))
              refine ⟨rJ ?_, rfl⟩
              unfold fcA
              first
                | (rw [if_pos c39, c34, Int.zero_ediv])
                | (rw [if_neg c39, c34, Int.gcd_zero_left, show ((b.natAbs : Nat) : Int) = b by omega, Int.ediv_self (by omega)])
                | rw [if_pos c52]
                | rw [if_neg c52]
        · exfalso; omega
      · have hyp : 0 < y := by omega
        have r0 := Int.emod_nonneg x hz
        have r1 := Int.emod_lt_of_pos x hyp
        refine wp_ll7 (q := 8) dX4_told_6 rfl (wp_lc0 (q := 9) dX4_told_8 rfl (wp_lcmp_eq (q1 := 10) (t := 31) (q := 13) dX4_told_9 rfl dX4_told_10 rfl rfl (fun c10 => ?_) (fun c10 => ?_)))
        · exfalso; omega
        · refine wp_ll5 (q := 15) dX4_told_13 rfl (wp_ll7 (q := 17) dX4_told_15 rfl (wp_lrem (q := 18) dX4_told_17 rfl (by omega) (by omega) (wp_ls9 (q := 20) dX4_told_18 rfl rfl (wp_ll7 (q := 22) dX4_told_20 rfl (wp_ls5 (q := 24) dX4_told_22 rfl rfl (wp_ll9 (q := 26) dX4_told_24 rfl (wp_ls7 (q := 28) dX4_told_26 rfl rfl (wp_goto (q := 6) dX4_told_28 rfl ?_))))))))
          exact ih y (x % y) _ (by omega) r0 (by omega) (by rw [gcd_step hx hyp, hgx])
  show Wp _ mX4_told 0 [mL a, mU, mL b, mU, mI (bI up), mU, mU, mU, mU, mU, mU] [] h (0, 0) _
  refine wp_ll0 (q := 1) dX4_told_0 rfl (wp_ls5 (q := 3) dX4_told_1 rfl rfl (wp_ll2 (q := 4) dX4_told_3 rfl (wp_ls7 (q := 6) dX4_told_4 rfl rfl ?_)))
  exact key (b.toNat + 1) a b mU ha (by omega) (by omega) rfl
/-- fractions that are the same number have the same least terms -/
theorem fcA_cross {a b c e : Int} {up : Prop} [Decidable up] (ha : 0 ≤ a) (hb : 0 < b) (hc : 0 ≤ c) (he : 0 < e) (h : a * e = c * b) : fcA a b up = fcA c e up := by
  have g1 := gcd_dv (a := a) hb
  have g2 := gcd_dv (a := c) he
  have hk : ((Int.gcd a b : Nat) : Int) * e = ((Int.gcd c e : Nat) : Int) * b := by
    have e1 : Int.gcd (a * e) (b * e) = Int.gcd a b * e.natAbs := Int.gcd_mul_right ..
    have e2 : Int.gcd (c * b) (e * b) = Int.gcd c e * b.natAbs := Int.gcd_mul_right ..
    rw [h, Int.mul_comm b e, e2] at e1
    have e3 : ((Int.gcd c e * b.natAbs : Nat) : Int) = ((Int.gcd a b * e.natAbs : Nat) : Int) := by rw [e1]
    rw [Int.natCast_mul, Int.natCast_mul, show ((b.natAbs : Nat) : Int) = b by omega, show ((e.natAbs : Nat) : Int) = e by omega] at e3
    exact e3.symm
  obtain ⟨a', ha'⟩ : ((Int.gcd a b : Nat) : Int) ∣ a := Int.gcd_dvd_left ..
  obtain ⟨b', hb'⟩ : ((Int.gcd a b : Nat) : Int) ∣ b := Int.gcd_dvd_right ..
  obtain ⟨c', hc'⟩ : ((Int.gcd c e : Nat) : Int) ∣ c := Int.gcd_dvd_left ..
  obtain ⟨e', he'⟩ : ((Int.gcd c e : Nat) : Int) ∣ e := Int.gcd_dvd_right ..
  have d1 : a / ((Int.gcd a b : Nat) : Int) = a' := Int.ediv_eq_of_eq_mul_right (by omega) ha'
  have d2 : b / ((Int.gcd a b : Nat) : Int) = b' := Int.ediv_eq_of_eq_mul_right (by omega) hb'
  have d3 : c / ((Int.gcd c e : Nat) : Int) = c' := Int.ediv_eq_of_eq_mul_right (by omega) hc'
  have d4 : e / ((Int.gcd c e : Nat) : Int) = e' := Int.ediv_eq_of_eq_mul_right (by omega) he'
  unfold fcA
  rw [d1, d2, d3, d4]
  generalize ((Int.gcd a b : Nat) : Int) = G at *
  generalize ((Int.gcd c e : Nat) : Int) = H at *
  have hbe : b' = e' := by
    rw [hb', he'] at hk
    have : G * H * e' = G * H * b' := by rw [Int.mul_assoc, hk, ← Int.mul_assoc, Int.mul_comm H G]
    exact (Int.eq_of_mul_eq_mul_left (Int.ne_of_gt (Int.mul_pos g1 g2)) this).symm
  have hac : a' = c' := by
    have b0 : b' ≠ 0 := fun z => by rw [z, Int.mul_zero] at hb'; omega
    rw [ha', hc', hb', he', ← hbe] at h
    have : G * H * b' * a' = G * H * b' * c' := by
      have l : G * a' * (H * b') = G * H * b' * a' := by ac_rfl
      have r : H * c' * (G * b') = G * H * b' * c' := by ac_rfl
      rw [← l, ← r]; exact h
    exact Int.eq_of_mul_eq_mul_left (Int.mul_ne_zero (Int.ne_of_gt (Int.mul_pos g1 g2)) b0) this
  rw [hbe, hac]
theorem mt_layPlaces (d : Nat) {h : List mC} {g : Nat} {n sz : Int} {ch ap pl wm lf rt ws rw pt wh on tw : List Int} {wo wt il dr : Int} {dn : List Int} (hM : MU h g n sz ch ap pl wm lf rt ws rw pt wh on tw wo wt il dr dn) : Ct (d + 0) mX4_layPlaces [mR g] h (fun r9 h9 => r9 = none ∧ MU h9 g n sz ch ap pl wm lf rt ws pl pt wh on tw wo wt il dr dn ∧ ∀ j : Nat, (j < g ∨ g + 14 ≤ j) → h9[j]? = h[j]?) := by
  have key : ∀ j : Nat, j ≤ 8 → ∀ (h1 : List mC) (rw : List Int) (x : Int), x = j → MU h1 g n sz ch ap pl wm lf rt ws rw pt wh on tw wo wt il dr dn → (∀ y : Int, 0 ≤ y → y < x → gI rw y = gI pl y) → (∀ j : Nat, (j < g ∨ g + 14 ≤ j) → h1[j]? = h[j]?) → Wp (d + 0) mX4_layPlaces 2 [mR g, mI x] [] h1 (0, 0) (fun r9 h9 => r9 = none ∧ MU h9 g n sz ch ap pl wm lf rt ws pl pt wh on tw wo wt il dr dn ∧ ∀ j : Nat, (j < g ∨ g + 14 ≤ j) → h9[j]? = h[j]?) := by
    refine loop_up 8 _ ?_ ?_
    · intro h1 rw x hx hM hw hf
      obtain ⟨m0, m1, mch, map, mpl, mwm, mlf, mrt, mws, mrw, mpt, mwh, mon, mtw, mdn, lch, lap, lpl, lwm, llf, lrt, lws, lrw, lpt, lwh, lon, ltw, ldn, m8⟩ := id hM
      refine wp_il1 (q := 3) dX4_layPlaces_2 rfl (wp_bi (q := 5) dX4_layPlaces_3 rfl (by decide) (by decide) (wp_icmp_ge (t := 26) (q := 8) dX4_layPlaces_5 rfl rfl (fun c5 => ?_) (fun c5 => ?_)))
      · refine wp_vret dX4_layPlaces_26 rfl ?_
        refine ⟨rfl, ?_, hf⟩
        have e : rw = pl := gI_ext (lrw.trans lpl.symm) (fun y y0 y1 => hw y y0 (by omega))
        rw [e] at hM
        exact hM
      · exfalso; omega
    · intro j hj ih h1 rw x hx hM hw hf
      obtain ⟨m0, m1, mch, map, mpl, mwm, mlf, mrt, mws, mrw, mpt, mwh, mon, mtw, mdn, lch, lap, lpl, lwm, llf, lrt, lws, lrw, lpt, lwh, lon, ltw, ldn, m8⟩ := id hM
      refine wp_il1 (q := 3) dX4_layPlaces_2 rfl (wp_bi (q := 5) dX4_layPlaces_3 rfl (by decide) (by decide) (wp_icmp_ge (t := 26) (q := 8) dX4_layPlaces_5 rfl rfl (fun c5 => ?_) (fun c5 => ?_)))
      · exfalso; omega
      · refine wp_al0 (q := 9) dX4_layPlaces_8 rfl (wp_getf (q := 12) dX4_layPlaces_9 rfl f31 m0 m1 rfl (fun z => nomatch z) (wp_il1 (q := 13) dX4_layPlaces_12 rfl (wp_al0 (q := 14) dX4_layPlaces_13 rfl (wp_getf (q := 17) dX4_layPlaces_14 rfl f26 m0 m1 rfl (fun z => nomatch z) (wp_il1 (q := 18) dX4_layPlaces_17 rfl (wp_iaload (q := 19) dX4_layPlaces_18 rfl mpl (by omega) (by omega) (wp_iastore (q := 20) dX4_layPlaces_19 rfl (by omega) mrw (by omega) (by omega) (wp_ii1 (q := 23) dX4_layPlaces_20 rfl rfl (by omega) (by omega) (wp_goto (q := 2) dX4_layPlaces_23 rfl ?_)))))))))
        refine ih _ (sI rw x (gI pl x)) _ (by omega) (hM.sRw ((sI_len _ _ _).trans lrw)) (fun y y0 y1 => ?_) (fun j hj => by rw [fr_set (by omega)]; exact hf j hj)
        by_cases e : y = x
        · rw [e]; exact gI_eq (by omega) (by omega)
        · rw [gI_ne (by omega) y0 (by omega)]; exact hw y y0 (by omega)
  show Wp _ mX4_layPlaces 0 [mR g, mU] [] h (0, 0) _
  refine wp_ic (q := 1) dX4_layPlaces_0 rfl (by decide) (by decide) (wp_is1 (q := 2) dX4_layPlaces_1 rfl rfl ?_)
  exact key 0 (Nat.zero_le _) h rw 0 rfl hM (fun y y0 y1 => by omega) (fun _ _ => rfl)
