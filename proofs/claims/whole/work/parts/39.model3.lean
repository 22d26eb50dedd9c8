/-! the model: who can win, as sets (rows laid by wip/whole) -/
theorem mOr_nat {a b : Nat} (ha : a < 256) (hb : b < 256) : mOr (a : Int) (b : Int) = ((a ||| b : Nat) : Int) := by
  unfold mOr
  rw [show Int32.ofInt ((a : Nat) : Int) = nI a from Int32.ofInt_eq_ofNat, show Int32.ofInt ((b : Nat) : Int) = nI b from Int32.ofInt_eq_ofNat]
  have hlt : a ||| b < 2 ^ 8 := Nat.or_lt_two_pow ha hb
  have e : nI a ||| nI b = nI (a ||| b) := by
    apply Int32.toBitVec_inj.mp
    apply BitVec.eq_of_toNat_eq
    rw [Int32.toBitVec_or, BitVec.toNat_or]
    show BitVec.toNat (BitVec.ofNat 32 a) ||| BitVec.toNat (BitVec.ofNat 32 b) = BitVec.toNat (BitVec.ofNat 32 (a ||| b))
    rw [BitVec.toNat_ofNat, BitVec.toNat_ofNat, BitVec.toNat_ofNat, Nat.mod_eq_of_lt (by omega), Nat.mod_eq_of_lt (by omega), Nat.mod_eq_of_lt (by omega)]
  rw [e, nI_toInt (by omega)]
/-- a set of players as a number -/
def mkM (S : Nat → Bool) : Nat → Nat
  | 0 => 0
  | k + 1 => mkM S k ||| (if S k = true then 2 ^ k else 0)
theorem mkM_lt (S : Nat → Bool) : ∀ k, mkM S k < 2 ^ k
  | 0 => by show 0 < 2 ^ 0; decide
  | k + 1 => by
    have ih := mkM_lt S k
    have h1 : mkM S k < 2 ^ (k + 1) := by rw [Nat.pow_succ]; omega
    have h2 : (if S k = true then 2 ^ k else 0) < 2 ^ (k + 1) := by
      have := Nat.two_pow_pos k
      rw [Nat.pow_succ]
      split <;> omega
    exact Nat.or_lt_two_pow h1 h2
theorem mkM_tb (S : Nat → Bool) (i : Nat) : ∀ k, (mkM S k).testBit i = true ↔ (i < k ∧ S i = true)
  | 0 => by simp [mkM]
  | k + 1 => by
    unfold mkM
    by_cases e : S k = true
    · rw [if_pos e, tb_or, mkM_tb S i k]
      constructor
      · rintro (⟨h1, h2⟩ | rfl)
        · exact ⟨by omega, h2⟩
        · exact ⟨by omega, e⟩
      · rintro ⟨h1, h2⟩
        by_cases e2 : i = k
        · exact Or.inr e2
        · exact Or.inl ⟨by omega, h2⟩
    · rw [if_neg e, Nat.or_zero, mkM_tb S i k]
      constructor
      · rintro ⟨h1, h2⟩
        exact ⟨by omega, h2⟩
      · rintro ⟨h1, h2⟩
        refine ⟨?_, h2⟩
        by_cases e2 : i = k
        · exact absurd (e2 ▸ h2) e
        · omega
def bitA (v : Int) : Nat := if v = 8 then 0 else 2 ^ v.toNat
theorem bitA_lt {v : Int} (h0 : 0 ≤ v) (h8 : v ≤ 8) : bitA v < 256 := by
  unfold bitA
  split
  · decide
  · have : 2 ^ v.toNat ≤ 2 ^ 7 := Nat.pow_le_pow_right (by decide) (by omega)
    omega
theorem bitA_tb {v : Int} (h0 : 0 ≤ v) (i : Nat) (hi : i < 8) : (bitA v).testBit i = true ↔ v = i := by
  unfold bitA
  split
  · rw [Nat.zero_testBit]; constructor
    · intro z; exact absurd z (by decide)
    · intro z; omega
  · rw [Nat.testBit_two_pow]
    simp only [decide_eq_true_eq]
    omega
theorem shlB : ∀ p : Nat, p < 8 → mShl 1 (p : Int) = ((2 ^ p : Nat) : Int) := by decide +kernel
/-- whether one who can come beats one of the others -/
def beB (ch : List Int) (u w a : Nat) : Nat → Bool
  | 0 => false
  | n + 1 => beB ch u w a n || (u.testBit a && w.testBit n && decide (0 < gI ch (8 * (a : Int) + n)))
def beN (ch : List Int) (u w : Nat) : Nat := mkM (fun a => beB ch u w a 8) 8
theorem mt_bit (d : Nat) {h : List mC} {g : Nat} {n sz : Int} {ch ap pl wm lf rt ws rw pt wh on tw : List Int} {wo wt il dr : Int} {dn : List Int} (hM : MU h g n sz ch ap pl wm lf rt ws rw pt wh on tw wo wt il dr dn) (hv : v8 pl) {x : Int} (x0 : 0 ≤ x) (x1 : x < 8) : Rt (d + 0) mX4_bit [mR g, mI x] h (some (mI (bitA (gI pl x) : Nat))) (h) := by
  obtain ⟨m0, m1, mch, map, mpl, mwm, mlf, mrt, mws, mrw, mpt, mwh, mon, mtw, mdn, lch, lap, lpl, lwm, llf, lrt, lws, lrw, lpt, lwh, lon, ltw, ldn, m8⟩ := id hM
  show Wp _ mX4_bit 0 [mR g, mI x] [] h (0, 0) _
  refine wp_al0 (q := 1) dX4_bit_0 rfl (wp_getf (q := 4) dX4_bit_1 rfl f26 m0 m1 rfl (fun z => nomatch z) (wp_il1 (q := 5) dX4_bit_4 rfl (wp_iaload (q := 6) dX4_bit_5 rfl mpl (by omega) (by omega) (wp_bi (q := 8) dX4_bit_6 rfl (by decide) (by decide) (wp_icmp_ne (t := 15) (q := 11) dX4_bit_8 rfl rfl (fun c8 => ?_) (fun c8 => ?_))))))
  · refine wp_ic (q := 16) dX4_bit_15 rfl (by decide) (by decide) (wp_al0 (q := 17) dX4_bit_16 rfl (wp_getf (q := 20) dX4_bit_17 rfl f26 m0 m1 rfl (fun z => nomatch z) (wp_il1 (q := 21) dX4_bit_20 rfl (wp_iaload (q := 22) dX4_bit_21 rfl mpl (by omega) (by omega) (wp_ishl _ (q := 23) dX4_bit_22 rfl rfl (wp_iret dX4_bit_23 rfl ?_))))))
    refine ⟨rI ?_, rfl⟩
    have hv2 := hv x
    first
      | (have c8 : gI pl x = 8 := c8
         unfold bitA; rw [if_pos c8]; rfl)
      | (have c8 : gI pl x ≠ 8 := c8
         unfold bitA; rw [if_neg c8]
         show mShl 1 (gI pl x) = _
         obtain ⟨q, hq⟩ := Int.eq_ofNat_of_zero_le hv2.1
         rw [hq]
         exact shlB q (by omega))
  · refine wp_ic (q := 12) dX4_bit_11 rfl (by decide) (by decide) (wp_goto (q := 23) dX4_bit_12 rfl (wp_iret dX4_bit_23 rfl ?_))
    refine ⟨rI ?_, rfl⟩
    have hv2 := hv x
    first
      | (have c8 : gI pl x = 8 := c8
         unfold bitA; rw [if_pos c8]; rfl)
      | (have c8 : gI pl x ≠ 8 := c8
         unfold bitA; rw [if_neg c8]
         show mShl 1 (gI pl x) = _
         obtain ⟨q, hq⟩ := Int.eq_ofNat_of_zero_le hv2.1
         rw [hq]
         exact shlB q (by omega))
theorem mt_beaters (d : Nat) {h : List mC} {g : Nat} {n sz : Int} {ch ap pl wm lf rt ws rw pt wh on tw : List Int} {wo wt il dr : Int} {dn : List Int} (hM : MU h g n sz ch ap pl wm lf rt ws rw pt wh on tw wo wt il dr dn) {u w : Nat} (hu : u < 256) (hw : w < 256) : Rt (d + 0) mX4_beaters [mR g, mI u, mI w] h (some (mI (beN ch u w : Nat))) h := by
  obtain ⟨m0, m1, mch, map, mpl, mwm, mlf, mrt, mws, mrw, mpt, mwh, mon, mtw, mdn, lch, lap, lpl, lwm, llf, lrt, lws, lrw, lpt, lwh, lon, ltw, ldn, m8⟩ := id hM
  have k2 : ∀ (a : Nat), a < 8 → (∀ (z t : mV), Wp (d + 0) mX4_beaters 87 [mR g, mI u, mI w, mI (mkM (fun a => beB ch u w a 8) (a + 1) : Nat), mI a, z, t] [] h (0, 0) (fun r' h' => r' = some (mI (beN ch u w : Nat)) ∧ h' = h)) → ∀ (j : Nat), j ≤ 8 → ∀ (c y : Int) (t : mV), y = j → c = ((mkM (fun a => beB ch u w a 8) a ||| (if beB ch u w a j = true then 2 ^ a else 0) : Nat) : Int) → Wp (d + 0) mX4_beaters 15 [mR g, mI u, mI w, mI c, mI a, mI y, t] [] h (0, 0) (fun r' h' => r' = some (mI (beN ch u w : Nat)) ∧ h' = h) := by
    intro a ha hK
    have hm8 := mkM_lt (fun a => beB ch u w a 8) a
    have hp8 : 2 ^ a ≤ 2 ^ 7 := Nat.pow_le_pow_right (by decide) (by omega)
    have hcl : ∀ j, mkM (fun a => beB ch u w a 8) a ||| (if beB ch u w a j = true then 2 ^ a else 0) < 256 := fun j => by
      have h1 : mkM (fun a => beB ch u w a 8) a < 2 ^ 8 := by omega
      have h2 : (if beB ch u w a j = true then 2 ^ a else 0) < 2 ^ 8 := by split <;> omega
      exact Nat.or_lt_two_pow h1 h2
    have hba := (bits_all u hu a ha).1
    refine loop_up _ _ ?_ ?_
    · intro c y t hy hc
      refine wp_il5 (q := 17) dX4_beaters_15 rfl (wp_bi (q := 19) dX4_beaters_17 rfl (by decide) (by decide) (wp_icmp_ge (t := 87) (q := 22) dX4_beaters_19 rfl rfl (fun c19 => ?_) (fun c19 => ?_)))
      · rw [hc]
        exact hK _ _
      · exfalso; omega
    · intro j hj ih c y t hy hc
      subst hy
      have hbj := (bits_all w hw j (by omega)).1
      have hst : beB ch u w a (j + 1) = (beB ch u w a j || (u.testBit a && w.testBit j && decide (0 < gI ch (8 * (a : Int) + j)))) := rfl
      have hno : ¬ (u.testBit a = true ∧ w.testBit j = true ∧ 0 < gI ch (8 * (a : Int) + j)) → mOr c 0 = ((mkM (fun a => beB ch u w a 8) a ||| (if beB ch u w a (j + 1) = true then 2 ^ a else 0) : Nat) : Int) := fun z => by
        show mOr c ((0 : Nat) : Int) = _
        rw [hc, mOr_nat (b := 0) (hcl j) (by decide), Nat.or_zero, hst]
        have e : (u.testBit a && w.testBit j && decide (0 < gI ch (8 * (a : Int) + j))) = false := by
          rw [Bool.eq_false_iff]
          intro hh
          simp only [Bool.and_eq_true, decide_eq_true_eq] at hh
          exact z ⟨hh.1.1, hh.1.2, hh.2⟩
        rw [e, Bool.or_false]
      have hyes : (u.testBit a = true ∧ w.testBit j = true ∧ 0 < gI ch (8 * (a : Int) + j)) → mOr c (mShl 1 (a : Int)) = ((mkM (fun a => beB ch u w a 8) a ||| (if beB ch u w a (j + 1) = true then 2 ^ a else 0) : Nat) : Int) := fun z => by
        rw [hc, (bits_all _ (hcl j) a ha).2.1, hst, z.1, z.2.1, decide_eq_true z.2.2]
        simp only [Bool.and_self, Bool.or_true, if_true]
        congr 1
        split
        · rw [Nat.or_assoc, Nat.or_self]
        · rw [Nat.or_zero]
      refine wp_il5 (q := 17) dX4_beaters_15 rfl (wp_bi (q := 19) dX4_beaters_17 rfl (by decide) (by decide) (wp_icmp_ge (t := 87) (q := 22) dX4_beaters_19 rfl rfl (fun c19 => ?_) (fun c19 => ?_)))
      · exfalso; omega
      · refine wp_il1 (q := 23) dX4_beaters_22 rfl (wp_il4 (q := 25) dX4_beaters_23 rfl (wp_ishr _ (q := 26) dX4_beaters_25 rfl rfl (wp_ic (q := 27) dX4_beaters_26 rfl (by decide) (by decide) (wp_iand (bI (u.testBit a = true)) (q := 28) dX4_beaters_27 rfl hba (wp_ic (q := 29) dX4_beaters_28 rfl (by decide) (by decide) (wp_icmp_ne (t := 62) (q := 32) dX4_beaters_29 rfl rfl (fun c29 => ?_) (fun c29 => ?_)))))))
        · have n29 : ¬ u.testBit a = true := fun z => c29 (bI_t z)
          refine wp_ic (q := 63) dX4_beaters_62 rfl (by decide) (by decide) (wp_is6 (q := 65) dX4_beaters_63 rfl rfl (wp_il3 (q := 66) dX4_beaters_65 rfl (wp_il6 (q := 68) dX4_beaters_66 rfl (wp_if_eq (t := 78) (q := 71) dX4_beaters_68 rfl rfl (fun c68 => ?_) (fun c68 => ?_)))))
          · refine wp_ic (q := 79) dX4_beaters_78 rfl (by decide) (by decide) (wp_ior _ (q := 80) dX4_beaters_79 rfl rfl (wp_is3 (q := 81) dX4_beaters_80 rfl rfl (wp_ii5 (q := 84) dX4_beaters_81 rfl rfl (by omega) (by omega) (wp_goto (q := 15) dX4_beaters_84 rfl ?_))))
            first
              | exact absurd c68 (by decide)
              | exact ih _ _ _ (by omega) (hno (fun z => n29 z.1))
              | exact ih _ _ _ (by omega) (hno (fun z => n39 z.2.1))
              | exact ih _ _ _ (by omega) (hno (fun z => by have := z.2.2; omega))
              | exact ih _ _ _ (by omega) (hyes ⟨n29, n39, n55⟩)
          · refine wp_ic (q := 72) dX4_beaters_71 rfl (by decide) (by decide) (wp_il4 (q := 74) dX4_beaters_72 rfl (wp_ishl _ (q := 75) dX4_beaters_74 rfl rfl (wp_goto (q := 79) dX4_beaters_75 rfl (wp_ior _ (q := 80) dX4_beaters_79 rfl rfl (wp_is3 (q := 81) dX4_beaters_80 rfl rfl (wp_ii5 (q := 84) dX4_beaters_81 rfl rfl (by omega) (by omega) (wp_goto (q := 15) dX4_beaters_84 rfl ?_)))))))
            first
              | exact absurd c68 (by decide)
              | exact ih _ _ _ (by omega) (hno (fun z => n29 z.1))
              | exact ih _ _ _ (by omega) (hno (fun z => n39 z.2.1))
              | exact ih _ _ _ (by omega) (hno (fun z => by have := z.2.2; omega))
              | exact ih _ _ _ (by omega) (hyes ⟨n29, n39, n55⟩)
        · have n29 : u.testBit a = true := Decidable.byContradiction (fun z => by rw [bI_f z] at c29; exact absurd c29 (by decide))
          refine wp_il2 (q := 33) dX4_beaters_32 rfl (wp_il5 (q := 35) dX4_beaters_33 rfl (wp_ishr _ (q := 36) dX4_beaters_35 rfl rfl (wp_ic (q := 37) dX4_beaters_36 rfl (by decide) (by decide) (wp_iand (bI (w.testBit j = true)) (q := 38) dX4_beaters_37 rfl hbj (wp_ic (q := 39) dX4_beaters_38 rfl (by decide) (by decide) (wp_icmp_ne (t := 62) (q := 42) dX4_beaters_39 rfl rfl (fun c39 => ?_) (fun c39 => ?_)))))))
          · have n39 : ¬ w.testBit j = true := fun z => c39 (bI_t z)
            refine wp_ic (q := 63) dX4_beaters_62 rfl (by decide) (by decide) (wp_is6 (q := 65) dX4_beaters_63 rfl rfl (wp_il3 (q := 66) dX4_beaters_65 rfl (wp_il6 (q := 68) dX4_beaters_66 rfl (wp_if_eq (t := 78) (q := 71) dX4_beaters_68 rfl rfl (fun c68 => ?_) (fun c68 => ?_)))))
            · refine wp_ic (q := 79) dX4_beaters_78 rfl (by decide) (by decide) (wp_ior _ (q := 80) dX4_beaters_79 rfl rfl (wp_is3 (q := 81) dX4_beaters_80 rfl rfl (wp_ii5 (q := 84) dX4_beaters_81 rfl rfl (by omega) (by omega) (wp_goto (q := 15) dX4_beaters_84 rfl ?_))))
              first
                | exact absurd c68 (by decide)
                | exact ih _ _ _ (by omega) (hno (fun z => n29 z.1))
                | exact ih _ _ _ (by omega) (hno (fun z => n39 z.2.1))
                | exact ih _ _ _ (by omega) (hno (fun z => by have := z.2.2; omega))
                | exact ih _ _ _ (by omega) (hyes ⟨n29, n39, n55⟩)
            · refine wp_ic (q := 72) dX4_beaters_71 rfl (by decide) (by decide) (wp_il4 (q := 74) dX4_beaters_72 rfl (wp_ishl _ (q := 75) dX4_beaters_74 rfl rfl (wp_goto (q := 79) dX4_beaters_75 rfl (wp_ior _ (q := 80) dX4_beaters_79 rfl rfl (wp_is3 (q := 81) dX4_beaters_80 rfl rfl (wp_ii5 (q := 84) dX4_beaters_81 rfl rfl (by omega) (by omega) (wp_goto (q := 15) dX4_beaters_84 rfl ?_)))))))
              first
                | exact absurd c68 (by decide)
                | exact ih _ _ _ (by omega) (hno (fun z => n29 z.1))
                | exact ih _ _ _ (by omega) (hno (fun z => n39 z.2.1))
                | exact ih _ _ _ (by omega) (hno (fun z => by have := z.2.2; omega))
                | exact ih _ _ _ (by omega) (hyes ⟨n29, n39, n55⟩)
          · have n39 : w.testBit j = true := Decidable.byContradiction (fun z => by rw [bI_f z] at c39; exact absurd c39 (by decide))
            refine wp_al0 (q := 43) dX4_beaters_42 rfl (wp_getf (q := 46) dX4_beaters_43 rfl f24 m0 m1 rfl (fun z => nomatch z) (wp_bi (q := 48) dX4_beaters_46 rfl (by decide) (by decide) (wp_il4 (q := 50) dX4_beaters_48 rfl (wp_imul (q := 51) dX4_beaters_50 rfl (by omega) (by omega) (wp_il5 (q := 53) dX4_beaters_51 rfl (wp_iadd (q := 54) dX4_beaters_53 rfl (by omega) (by omega) (wp_iaload (q := 55) dX4_beaters_54 rfl mch (by omega) (by omega) (wp_if_le (t := 62) (q := 58) dX4_beaters_55 rfl rfl (fun c55 => ?_) (fun c55 => ?_)))))))))
            · have n55 : gI ch (8 * (a : Int) + j) ≤ 0 := c55
              refine wp_ic (q := 63) dX4_beaters_62 rfl (by decide) (by decide) (wp_is6 (q := 65) dX4_beaters_63 rfl rfl (wp_il3 (q := 66) dX4_beaters_65 rfl (wp_il6 (q := 68) dX4_beaters_66 rfl (wp_if_eq (t := 78) (q := 71) dX4_beaters_68 rfl rfl (fun c68 => ?_) (fun c68 => ?_)))))
              · refine wp_ic (q := 79) dX4_beaters_78 rfl (by decide) (by decide) (wp_ior _ (q := 80) dX4_beaters_79 rfl rfl (wp_is3 (q := 81) dX4_beaters_80 rfl rfl (wp_ii5 (q := 84) dX4_beaters_81 rfl rfl (by omega) (by omega) (wp_goto (q := 15) dX4_beaters_84 rfl ?_))))
                first
                  | exact absurd c68 (by decide)
                  | exact ih _ _ _ (by omega) (hno (fun z => n29 z.1))
                  | exact ih _ _ _ (by omega) (hno (fun z => n39 z.2.1))
                  | exact ih _ _ _ (by omega) (hno (fun z => by have := z.2.2; omega))
                  | exact ih _ _ _ (by omega) (hyes ⟨n29, n39, n55⟩)
              · refine wp_ic (q := 72) dX4_beaters_71 rfl (by decide) (by decide) (wp_il4 (q := 74) dX4_beaters_72 rfl (wp_ishl _ (q := 75) dX4_beaters_74 rfl rfl (wp_goto (q := 79) dX4_beaters_75 rfl (wp_ior _ (q := 80) dX4_beaters_79 rfl rfl (wp_is3 (q := 81) dX4_beaters_80 rfl rfl (wp_ii5 (q := 84) dX4_beaters_81 rfl rfl (by omega) (by omega) (wp_goto (q := 15) dX4_beaters_84 rfl ?_)))))))
                first
                  | exact absurd c68 (by decide)
                  | exact ih _ _ _ (by omega) (hno (fun z => n29 z.1))
                  | exact ih _ _ _ (by omega) (hno (fun z => n39 z.2.1))
                  | exact ih _ _ _ (by omega) (hno (fun z => by have := z.2.2; omega))
                  | exact ih _ _ _ (by omega) (hyes ⟨n29, n39, n55⟩)
            · have n55 : 0 < gI ch (8 * (a : Int) + j) := c55
              refine wp_ic (q := 59) dX4_beaters_58 rfl (by decide) (by decide) (wp_goto (q := 63) dX4_beaters_59 rfl (wp_is6 (q := 65) dX4_beaters_63 rfl rfl (wp_il3 (q := 66) dX4_beaters_65 rfl (wp_il6 (q := 68) dX4_beaters_66 rfl (wp_if_eq (t := 78) (q := 71) dX4_beaters_68 rfl rfl (fun c68 => ?_) (fun c68 => ?_))))))
              · refine wp_ic (q := 79) dX4_beaters_78 rfl (by decide) (by decide) (wp_ior _ (q := 80) dX4_beaters_79 rfl rfl (wp_is3 (q := 81) dX4_beaters_80 rfl rfl (wp_ii5 (q := 84) dX4_beaters_81 rfl rfl (by omega) (by omega) (wp_goto (q := 15) dX4_beaters_84 rfl ?_))))
                first
                  | exact absurd c68 (by decide)
                  | exact ih _ _ _ (by omega) (hno (fun z => n29 z.1))
                  | exact ih _ _ _ (by omega) (hno (fun z => n39 z.2.1))
                  | exact ih _ _ _ (by omega) (hno (fun z => by have := z.2.2; omega))
                  | exact ih _ _ _ (by omega) (hyes ⟨n29, n39, n55⟩)
              · refine wp_ic (q := 72) dX4_beaters_71 rfl (by decide) (by decide) (wp_il4 (q := 74) dX4_beaters_72 rfl (wp_ishl _ (q := 75) dX4_beaters_74 rfl rfl (wp_goto (q := 79) dX4_beaters_75 rfl (wp_ior _ (q := 80) dX4_beaters_79 rfl rfl (wp_is3 (q := 81) dX4_beaters_80 rfl rfl (wp_ii5 (q := 84) dX4_beaters_81 rfl rfl (by omega) (by omega) (wp_goto (q := 15) dX4_beaters_84 rfl ?_)))))))
                first
                  | exact absurd c68 (by decide)
                  | exact ih _ _ _ (by omega) (hno (fun z => n29 z.1))
                  | exact ih _ _ _ (by omega) (hno (fun z => n39 z.2.1))
                  | exact ih _ _ _ (by omega) (hno (fun z => by have := z.2.2; omega))
                  | exact ih _ _ _ (by omega) (hyes ⟨n29, n39, n55⟩)
  have k1 : ∀ (j : Nat), j ≤ 8 → ∀ (c y : Int) (t s : mV), y = j → c = ((mkM (fun a => beB ch u w a 8) j : Nat) : Int) → Wp (d + 0) mX4_beaters 5 [mR g, mI u, mI w, mI c, mI y, t, s] [] h (0, 0) (fun r' h' => r' = some (mI (beN ch u w : Nat)) ∧ h' = h) := by
    refine loop_up _ _ ?_ ?_
    · intro c y t s hy hc
      refine wp_il4 (q := 7) dX4_beaters_5 rfl (wp_bi (q := 9) dX4_beaters_7 rfl (by decide) (by decide) (wp_icmp_ge (t := 93) (q := 12) dX4_beaters_9 rfl rfl (fun c9 => ?_) (fun c9 => ?_)))
      · refine wp_il3 (q := 94) dX4_beaters_93 rfl (wp_iret dX4_beaters_94 rfl ?_)
        exact ⟨rI hc, rfl⟩
      · exfalso; omega
    · intro j hj ih c y t s hy hc
      subst hy
      have hK : ∀ (z t : mV), Wp (d + 0) mX4_beaters 87 [mR g, mI u, mI w, mI (mkM (fun a => beB ch u w a 8) (j + 1) : Nat), mI j, z, t] [] h (0, 0) (fun r' h' => r' = some (mI (beN ch u w : Nat)) ∧ h' = h) := by
        intro z t
        refine wp_ii4 (q := 90) dX4_beaters_87 rfl rfl (by omega) (by omega) (wp_goto (q := 5) dX4_beaters_90 rfl ?_)
        exact ih _ _ _ _ (by omega) rfl
      refine wp_il4 (q := 7) dX4_beaters_5 rfl (wp_bi (q := 9) dX4_beaters_7 rfl (by decide) (by decide) (wp_icmp_ge (t := 93) (q := 12) dX4_beaters_9 rfl rfl (fun c9 => ?_) (fun c9 => ?_)))
      · exfalso; omega
      · refine wp_ic (q := 13) dX4_beaters_12 rfl (by decide) (by decide) (wp_is5 (q := 15) dX4_beaters_13 rfl rfl ?_)
        exact k2 j hj hK 0 (Nat.zero_le _) _ _ _ rfl (by rw [hc, if_neg (fun z => absurd z (by simp [beB])), Nat.or_zero])
  show Wp _ mX4_beaters 0 [mR g, mI u, mI w, mU, mU, mU, mU] [] h (0, 0) _
  refine wp_ic (q := 1) dX4_beaters_0 rfl (by decide) (by decide) (wp_is3 (q := 2) dX4_beaters_1 rfl rfl (wp_ic (q := 3) dX4_beaters_2 rfl (by decide) (by decide) (wp_is4 (q := 5) dX4_beaters_3 rfl rfl ?_)))
  exact k1 0 (Nat.zero_le _) 0 0 mU mU rfl rfl
theorem mt_many (d : Nat) {h : List mC} {u : Nat} (hu : u < 256) : Rt (d + 0) mX4_many [mI u] h (some (mI (pcN u))) h := by
  have key : ∀ (j : Nat), j ≤ 8 → ∀ (c x : Int), x = j → c = sumN (fun i => bI (u.testBit i = true)) j → Wp (d + 0) mX4_many 4 [mI u, mI c, mI x] [] h (0, 0) (fun r' h' => r' = some (mI (pcN u)) ∧ h' = h) := by
    refine loop_up _ _ ?_ ?_
    · intro c x hx hc
      refine wp_il2 (q := 5) dX4_many_4 rfl (wp_bi (q := 7) dX4_many_5 rfl (by decide) (by decide) (wp_icmp_ge (t := 24) (q := 10) dX4_many_7 rfl rfl (fun c7 => ?_) (fun c7 => ?_)))
      · refine wp_il1 (q := 25) dX4_many_24 rfl (wp_iret dX4_many_25 rfl ?_)
        exact ⟨rI hc, rfl⟩
      · exfalso; omega
    · intro j hj ih c x hx hc
      subst hx
      have bo := sumB_in (p := fun i : Nat => u.testBit i = true) j
      have e1 : sumN (fun i => bI (u.testBit i = true)) (j + 1) = sumN (fun i => bI (u.testBit i = true)) j + bI (u.testBit j = true) := rfl
      rw [← hc] at bo e1
      have hb := (bits_all u hu j hj).1
      have b01 := bI_01 (p := u.testBit j = true)
      refine wp_il2 (q := 5) dX4_many_4 rfl (wp_bi (q := 7) dX4_many_5 rfl (by decide) (by decide) (wp_icmp_ge (t := 24) (q := 10) dX4_many_7 rfl rfl (fun c7 => ?_) (fun c7 => ?_)))
      · exfalso; omega
      · refine wp_il1 (q := 11) dX4_many_10 rfl (wp_il0 (q := 12) dX4_many_11 rfl (wp_il2 (q := 13) dX4_many_12 rfl (wp_ishr _ (q := 14) dX4_many_13 rfl rfl (wp_ic (q := 15) dX4_many_14 rfl (by decide) (by decide) (wp_iand (bI (u.testBit j = true)) (q := 16) dX4_many_15 rfl hb (wp_iadd (q := 17) dX4_many_16 rfl (by omega) (by omega) (wp_is1 (q := 18) dX4_many_17 rfl rfl (wp_ii2 (q := 21) dX4_many_18 rfl rfl (by omega) (by omega) (wp_goto (q := 4) dX4_many_21 rfl ?_)))))))))
        exact ih _ _ (by omega) e1.symm
  show Wp _ mX4_many 0 [mI u, mU, mU] [] h (0, 0) _
  refine wp_ic (q := 1) dX4_many_0 rfl (by decide) (by decide) (wp_is1 (q := 2) dX4_many_1 rfl rfl (wp_ic (q := 3) dX4_many_2 rfl (by decide) (by decide) (wp_is2 (q := 4) dX4_many_3 rfl rfl ?_)))
  exact key 0 (Nat.zero_le _) 0 0 rfl rfl
