/-! the static methods: rounds in which places meet, fractions (rows laid by wip/whole) -/
theorem mShr_l {x : Int} (h0 : 0 ≤ x) (h1 : x < 2147483648) (y : Int) (k : Nat) (hs : ((Int32.ofInt y &&& 31).toBitVec.smod 32).toNat = k) : mShr x y = x / 2 ^ k := by
  obtain ⟨n, rfl⟩ := Int.eq_ofNat_of_zero_le h0
  unfold mShr
  have e : Int32.ofInt ((n : Nat) : Int) = nI n := Int32.ofInt_eq_ofNat
  rw [e, pk_shrN (by omega) _ k hs, nI_toInt (Nat.lt_of_le_of_lt (Nat.div_le_self _ _) (by omega))]
  exact Int.natCast_ediv n (2 ^ k)
theorem mShl_l {x : Int} (h0 : 0 ≤ x) (y : Int) (k : Nat) (hs : ((Int32.ofInt y &&& 31).toBitVec.smod 32).toNat = k) (h1 : x * 2 ^ k < 2147483648) : mShl x y = x * 2 ^ k := by
  obtain ⟨n, rfl⟩ := Int.eq_ofNat_of_zero_le h0
  have h2 : n * 2 ^ k < 2 ^ 31 := by
    have : ((n * 2 ^ k : Nat) : Int) < 2147483648 := by rw [Int.natCast_mul]; exact h1
    omega
  unfold mShl
  have e : Int32.ofInt ((n : Nat) : Int) = nI n := Int32.ofInt_eq_ofNat
  rw [e, pk_shlN _ k hs (by omega), nI_toInt h2, Int.natCast_mul]
  rfl
/-- the round in which two places meet -/
def mrA (x y : Int) : Int := if x / 2 = y / 2 then 1 else if x / 4 = y / 4 then 2 else 3
theorem mrA_in (x y : Int) : 1 ≤ mrA x y ∧ mrA x y ≤ 3 := by
  unfold mrA
  split
  · omega
  · split <;> omega
theorem shr1 {x : Int} (h0 : 0 ≤ x) (h1 : x < 2147483648) : mShr x 1 = x / 2 := mShr_l h0 h1 1 1 (by decide)
theorem shr2 {x : Int} (h0 : 0 ≤ x) (h1 : x < 2147483648) : mShr x 2 = x / 4 := mShr_l h0 h1 2 2 (by decide)
theorem shr3 {x : Int} (h0 : 0 ≤ x) (h1 : x < 2147483648) : mShr x 3 = x / 8 := mShr_l h0 h1 3 3 (by decide)
/-- meetingRound -/
theorem ct_meetingRound (d : Nat) {h : List mC} {x y : Int} (hx0 : 0 ≤ x) (hx1 : x < 8) (hy0 : 0 ≤ y) (hy1 : y < 8) : Rt (d + 0) mX3_meetingRound [mI x, mI y] h (some (mI (mrA x y))) h := by
  have l3 : mrA x y = 3 → Wp (d + 0) mX3_meetingRound 2 [mI x, mI y, mI 3] [] h (0, 0) (fun r' h' => r' = some (mI (mrA x y)) ∧ h' = h) := by
    intro hr
    refine wp_il2 (q := 3) dX3_meetingRound_2 rfl (wp_ic (q := 4) dX3_meetingRound_3 rfl (by decide) (by decide) (wp_icmp_ge (t := 22) (q := 7) dX3_meetingRound_4 rfl rfl (fun c4 => ?_) (fun c4 => ?_)))
    · refine wp_il2 (q := 23) dX3_meetingRound_22 rfl (wp_iret dX3_meetingRound_23 rfl ?_)
      exact ⟨by rw [hr], rfl⟩
    · exfalso; omega
  have l2 : x / 2 ≠ y / 2 → Wp (d + 0) mX3_meetingRound 2 [mI x, mI y, mI 2] [] h (0, 0) (fun r' h' => r' = some (mI (mrA x y)) ∧ h' = h) := by
    intro hr
    refine wp_il2 (q := 3) dX3_meetingRound_2 rfl (wp_ic (q := 4) dX3_meetingRound_3 rfl (by decide) (by decide) (wp_icmp_ge (t := 22) (q := 7) dX3_meetingRound_4 rfl rfl (fun c4 => ?_) (fun c4 => ?_)))
    · exfalso; omega
    · refine wp_il0 (q := 8) dX3_meetingRound_7 rfl (wp_il2 (q := 9) dX3_meetingRound_8 rfl (wp_ishr (x / 4) (q := 10) dX3_meetingRound_9 rfl (shr2 hx0 (by omega)) (wp_il1 (q := 11) dX3_meetingRound_10 rfl (wp_il2 (q := 12) dX3_meetingRound_11 rfl (wp_ishr (y / 4) (q := 13) dX3_meetingRound_12 rfl (shr2 hy0 (by omega)) (wp_icmp_eq (t := 22) (q := 16) dX3_meetingRound_13 rfl rfl (fun c13 => ?_) (fun c13 => ?_)))))))
      · refine wp_il2 (q := 23) dX3_meetingRound_22 rfl (wp_iret dX3_meetingRound_23 rfl ?_)
        exact ⟨by unfold mrA; rw [if_neg hr, if_pos c13], rfl⟩
      · refine wp_ii2 (q := 19) dX3_meetingRound_16 rfl rfl (by omega) (by omega) (wp_goto (q := 2) dX3_meetingRound_19 rfl ?_)
        exact l3 (by unfold mrA; rw [if_neg hr, if_neg c13])
  show Wp _ mX3_meetingRound 0 [mI x, mI y, mU] [] h (0, 0) _
  refine wp_ic (q := 1) dX3_meetingRound_0 rfl (by decide) (by decide) (wp_is2 (q := 2) dX3_meetingRound_1 rfl rfl ?_)
  have l1 : Wp (d + 0) mX3_meetingRound 2 [mI x, mI y, mI 1] [] h (0, 0) (fun r' h' => r' = some (mI (mrA x y)) ∧ h' = h) := by
    refine wp_il2 (q := 3) dX3_meetingRound_2 rfl (wp_ic (q := 4) dX3_meetingRound_3 rfl (by decide) (by decide) (wp_icmp_ge (t := 22) (q := 7) dX3_meetingRound_4 rfl rfl (fun c4 => ?_) (fun c4 => ?_)))
    · exfalso; omega
    · refine wp_il0 (q := 8) dX3_meetingRound_7 rfl (wp_il2 (q := 9) dX3_meetingRound_8 rfl (wp_ishr (x / 2) (q := 10) dX3_meetingRound_9 rfl (shr1 hx0 (by omega)) (wp_il1 (q := 11) dX3_meetingRound_10 rfl (wp_il2 (q := 12) dX3_meetingRound_11 rfl (wp_ishr (y / 2) (q := 13) dX3_meetingRound_12 rfl (shr1 hy0 (by omega)) (wp_icmp_eq (t := 22) (q := 16) dX3_meetingRound_13 rfl rfl (fun c13 => ?_) (fun c13 => ?_)))))))
      · refine wp_il2 (q := 23) dX3_meetingRound_22 rfl (wp_iret dX3_meetingRound_23 rfl ?_)
        exact ⟨by unfold mrA; rw [if_pos c13], rfl⟩
      · refine wp_ii2 (q := 19) dX3_meetingRound_16 rfl rfl (by omega) (by omega) (wp_goto (q := 2) dX3_meetingRound_19 rfl ?_)
        exact l2 c13
  exact l1
theorem gcd_step {a b : Int} (ha : 0 ≤ a) (hb : 0 < b) : Int.gcd b (a % b) = Int.gcd a b := by
  obtain ⟨m, rfl⟩ := Int.eq_ofNat_of_zero_le ha
  obtain ⟨n, rfl⟩ := Int.eq_ofNat_of_zero_le (Int.le_of_lt hb)
  rw [← Int.natCast_emod, Int.gcd_natCast_natCast, Int.gcd_natCast_natCast, Nat.gcd_comm m n]
  exact (Nat.gcd_rec n m).symm.trans rfl |> fun z => by rw [Nat.gcd_comm n (m % n)]; exact z
/-- commonDivisor -/
theorem ct_commonDivisor (d : Nat) {h : List mC} {a b : Int} (ha : 0 ≤ a) (ha2 : a ≤ 9223372036854775807) (hb : 0 ≤ b) (hb1 : b < 2 ^ 45) : Rt (d + 0) mX3_commonDivisor [mL a, mL b] h (some (mL (Int.gcd a b : Nat))) h := by
  have fin : ∀ (x : Int) (s : Int) (u : List mV), 0 ≤ x → x = (Int.gcd a b : Nat) → s ≤ 99 → Wp (d + 0) mX3_commonDivisor 3 (mL x :: mU :: mL 0 :: mU :: mI s :: u) [] h (0, 0) (fun r' h' => r' = some (mL (Int.gcd a b : Nat)) ∧ h' = h) := by
    intro x s u hx0 hx hs
    refine wp_il4 (q := 5) dX3_commonDivisor_3 rfl (wp_bi (q := 7) dX3_commonDivisor_5 rfl (by decide) (by decide) (wp_icmp_ge (t := 32) (q := 10) dX3_commonDivisor_7 rfl rfl (fun c7 => ?_) (fun c7 => ?_)))
    · exfalso; omega
    · refine wp_ll2 (q := 11) dX3_commonDivisor_10 rfl (wp_lc0 (q := 12) dX3_commonDivisor_11 rfl (wp_lcmp_le (q1 := 13) (t := 32) (q := 16) dX3_commonDivisor_12 rfl dX3_commonDivisor_13 rfl rfl (fun c13 => ?_) (fun c13 => ?_)))
      · refine wp_ll0 (q := 33) dX3_commonDivisor_32 rfl (wp_lret dX3_commonDivisor_33 rfl ?_)
        exact ⟨by rw [hx], rfl⟩
      · exfalso; omega
  have key : ∀ (m : Nat) (x y s : Int) (u v : mV), 0 ≤ x → x ≤ 9223372036854775807 → 0 ≤ y → y ≤ 9223372036854775807 → y < 2 ^ m → Int.gcd x y = Int.gcd a b → s + 2 * m ≤ 98 → 0 ≤ s → Wp (d + 0) mX3_commonDivisor 3 [mL x, mU, mL y, mU, mI s, u, v] [] h (0, 0) (fun r' h' => r' = some (mL (Int.gcd a b : Nat)) ∧ h' = h) := by
    intro m
    induction m with
    | zero =>
      intro x y s u v hx0 hx1 hy0 hy9 hy1 hg hs hs0
      have : y = 0 := by omega
      subst this
      exact fin x s _ hx0 (by rw [← hg, Int.gcd_zero_right]; omega) (by omega)
    | succ m ih =>
      intro x y s u v hx0 hx1 hy0 hy9 hy1 hg hs hs0
      have hy2 : y < 2 * 2 ^ m := by rw [Int.pow_succ] at hy1; omega
      by_cases hyz : y = 0
      · subst hyz
        exact fin x s _ hx0 (by rw [← hg, Int.gcd_zero_right]; omega) (by omega)
      · have hyp : 0 < y := by omega
        have r0 := Int.emod_nonneg x hyz
        have r1 := Int.emod_lt_of_pos x hyp
        refine wp_il4 (q := 5) dX3_commonDivisor_3 rfl (wp_bi (q := 7) dX3_commonDivisor_5 rfl (by decide) (by decide) (wp_icmp_ge (t := 32) (q := 10) dX3_commonDivisor_7 rfl rfl (fun c7 => ?_) (fun c7 => ?_)))
        · exfalso; omega
        · refine wp_ll2 (q := 11) dX3_commonDivisor_10 rfl (wp_lc0 (q := 12) dX3_commonDivisor_11 rfl (wp_lcmp_le (q1 := 13) (t := 32) (q := 16) dX3_commonDivisor_12 rfl dX3_commonDivisor_13 rfl rfl (fun c13 => ?_) (fun c13 => ?_)))
          · exfalso; omega
          · refine wp_ll0 (q := 17) dX3_commonDivisor_16 rfl (wp_ll2 (q := 18) dX3_commonDivisor_17 rfl (wp_lrem (q := 19) dX3_commonDivisor_18 rfl (by omega) (by omega) (wp_ls5 (q := 21) dX3_commonDivisor_19 rfl rfl (wp_ll2 (q := 22) dX3_commonDivisor_21 rfl (wp_ls0 (q := 23) dX3_commonDivisor_22 rfl (wp_ll5 (q := 25) dX3_commonDivisor_23 rfl (wp_ls2 (q := 26) dX3_commonDivisor_25 rfl rfl (wp_ii4 (q := 29) dX3_commonDivisor_26 rfl rfl (by omega) (by omega) (wp_goto (q := 3) dX3_commonDivisor_29 rfl ?_)))))))))
            by_cases hrz : x % y = 0
            · rw [hrz]
              refine fin y (s + 1) _ hy0 ?_ (by omega)
              rw [← hg, ← gcd_step hx0 hyp, hrz, Int.gcd_zero_right]; omega
            · have hrp : 0 < x % y := by omega
              have q0 := Int.emod_nonneg y hrz
              have q1 := Int.emod_lt_of_pos y hrp
              have q2 : y % (x % y) < 2 ^ m := by
                by_cases hh : 2 * (x % y) ≤ y
                · omega
                · have e : y % (x % y) = y - x % y := by
                    have e1 := Int.emod_emod_of_dvd y (Int.dvd_refl (x % y))
                    have e2 : (y - x % y) % (x % y) = y % (x % y) := by rw [Int.sub_emod, Int.emod_self, Int.sub_zero, e1]
                    rw [← e2, Int.emod_eq_of_lt (by omega) (by omega)]
                  omega
              have again : Wp (d + 0) mX3_commonDivisor 3 [mL y, mU, mL (x % y), mU, mI (s + 1), mL (x % y), mU] [] h (0, 0) (fun r' h' => r' = some (mL (Int.gcd a b : Nat)) ∧ h' = h) := by
                refine wp_il4 (q := 5) dX3_commonDivisor_3 rfl (wp_bi (q := 7) dX3_commonDivisor_5 rfl (by decide) (by decide) (wp_icmp_ge (t := 32) (q := 10) dX3_commonDivisor_7 rfl rfl (fun c7 => ?_) (fun c7 => ?_)))
                · exfalso; omega
                · refine wp_ll2 (q := 11) dX3_commonDivisor_10 rfl (wp_lc0 (q := 12) dX3_commonDivisor_11 rfl (wp_lcmp_le (q1 := 13) (t := 32) (q := 16) dX3_commonDivisor_12 rfl dX3_commonDivisor_13 rfl rfl (fun c13 => ?_) (fun c13 => ?_)))
                  · exfalso; omega
                  · refine wp_ll0 (q := 17) dX3_commonDivisor_16 rfl (wp_ll2 (q := 18) dX3_commonDivisor_17 rfl (wp_lrem (q := 19) dX3_commonDivisor_18 rfl (by omega) (by omega) (wp_ls5 (q := 21) dX3_commonDivisor_19 rfl rfl (wp_ll2 (q := 22) dX3_commonDivisor_21 rfl (wp_ls0 (q := 23) dX3_commonDivisor_22 rfl (wp_ll5 (q := 25) dX3_commonDivisor_23 rfl (wp_ls2 (q := 26) dX3_commonDivisor_25 rfl rfl (wp_ii4 (q := 29) dX3_commonDivisor_26 rfl rfl (by omega) (by omega) (wp_goto (q := 3) dX3_commonDivisor_29 rfl ?_)))))))))
                    exact ih _ _ _ _ _ (by omega) (by omega) q0 (by omega) q2 (by rw [gcd_step (by omega) hrp, gcd_step hx0 hyp, hg]) (by omega) (by omega)
              exact again
  show Wp _ mX3_commonDivisor 0 [mL a, mU, mL b, mU, mU, mU, mU] [] h (0, 0) _
  refine wp_ic (q := 1) dX3_commonDivisor_0 rfl (by decide) (by decide) (wp_is4 (q := 3) dX3_commonDivisor_1 rfl rfl ?_)
  exact key 45 a b 0 mU mU ha ha2 hb (by omega) hb1 rfl (by omega) (by omega)
/-- a fraction in least terms: what is above, what is below -/
def fcA (a b : Int) (up : Prop) [Decidable up] : Int := if up then a / (Int.gcd a b : Nat) else b / (Int.gcd a b : Nat)
theorem ct_fraction (d : Nat) {h : List mC} {a b : Int} {up : Prop} [Decidable up] (ha : 0 ≤ a) (ha2 : a ≤ 9223372036854775807) (hb : 0 < b) (hb1 : b < 2 ^ 45) : Rt (d + 1) mX3_fraction [mL a, mL b, mI (bI up)] h (some (mL (fcA a b up))) h := by
  have hg : (0 : Int) < (Int.gcd a b : Nat) := by
    have : 0 < Int.gcd a b := Int.gcd_pos_of_ne_zero_right _ (by omega)
    omega
  show Wp _ mX3_fraction 0 [mL a, mU, mL b, mU, mI (bI up), mU, mU] [] h (0, 0) _
  refine wp_ll0 (q := 1) dX3_fraction_0 rfl (wp_ll2 (q := 2) dX3_fraction_1 rfl (wp_s2I (q := 5) dX3_fraction_2 rfl q69 (Nat.le_of_ble_eq_true rfl) rfl rfl rfl (ct_commonDivisor d ha ha2 (by omega) hb1) (wp_ls5 (q := 7) dX3_fraction_5 rfl rfl (wp_ll5 (q := 9) dX3_fraction_7 rfl (wp_lc0 (q := 10) dX3_fraction_9 rfl (wp_lcmp_gt (q1 := 11) (t := 25) (q := 14) dX3_fraction_10 rfl dX3_fraction_11 rfl rfl (fun c11 => ?_) (fun c11 => ?_)))))))
  · refine wp_il4 (q := 27) dX3_fraction_25 rfl (wp_ifb_eq (t := 37) (q := 30) dX3_fraction_27 rfl rfl (fun c27 => ?_) (fun c27 => ?_))
    · refine wp_ll2 (q := 38) dX3_fraction_37 rfl (wp_ll5 (q := 40) dX3_fraction_38 rfl (wp_ldiv (q := 41) dX3_fraction_40 rfl (by omega) (by omega) (wp_lret dX3_fraction_41 rfl ?_)))
      exact ⟨by unfold fcA; first | rw [if_pos c27] | rw [if_neg c27], rfl⟩
    · refine wp_ll0 (q := 31) dX3_fraction_30 rfl (wp_ll5 (q := 33) dX3_fraction_31 rfl (wp_ldiv (q := 34) dX3_fraction_33 rfl (by omega) (by omega) (wp_goto (q := 41) dX3_fraction_34 rfl (wp_lret dX3_fraction_41 rfl ?_))))
      exact ⟨by unfold fcA; first | rw [if_pos c27] | rw [if_neg c27], rfl⟩
  · exfalso; omega
