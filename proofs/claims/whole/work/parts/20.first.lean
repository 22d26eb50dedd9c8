/-! first words; the JDK's methods; the class' static ones; the roster (rows laid by wip/whole/emit.py) -/
theorem gs_ne {l : List mC} {i j : Nat} {x c : mC} (h : l[j]? = some c) (hn : i ≠ j) : (l.set i x)[j]? = some c := by rw [List.getElem?_set_ne hn]; exact h
theorem gs_eq {l : List mC} {i : Nat} {x c : mC} (h : l[i]? = some c) : (l.set i x)[i]? = some x := by rw [List.getElem?_set_self (List.getElem?_eq_some_iff.mp h).1]
theorem gs_ss {l : List mC} {i : Nat} {x y : mC} : (l.set i x).set i y = l.set i y := List.set_set ..
theorem gs_id {l : List mC} {i : Nat} {c : mC} (h : l[i]? = some c) : l.set i c = l := by
  apply List.ext_getElem?
  intro j
  rw [List.getElem?_set]
  by_cases e : i = j
  · subst e
    rw [if_pos rfl, if_pos (List.getElem?_eq_some_iff.mp h).1, h]
  · rw [if_neg e]
theorem bI_01 {p : Prop} [Decidable p] : bI p = 0 ∨ bI p = 1 := by
  by_cases h : p
  · exact Or.inr (bI_t h)
  · exact Or.inl (bI_f h)
/-- a loop that counts up -/
theorem loop_up (n : Nat) (P : Nat → Prop) (he : P n) (hs : ∀ j, j < n → P (j + 1) → P j) : ∀ j, j ≤ n → P j := by
  have key : ∀ k j, j + k = n → P j := by
    intro k
    induction k with
    | zero => intro j hj; rw [Nat.add_zero] at hj; subst hj; exact he
    | succ k ih => intro j hj; exact hs j (by omega) (ih (j + 1) (by omega))
  intro j hj
  exact key (n - j) j (by omega)
/-- places of a row of numbers, by whole numbers -/
def gI (l : List Int) (x : Int) : Int := l.getD x.toNat 0
def sI (l : List Int) (x v : Int) : List Int := l.set x.toNat v
theorem sI_len (l : List Int) (x v : Int) : (sI l x v).length = l.length := List.length_set ..
theorem gI_eq {l : List Int} {x v : Int} (h0 : 0 ≤ x) (h : x < l.length) : gI (sI l x v) x = v := by
  unfold gI sI
  rw [List.getD_eq_getElem?_getD, List.getElem?_set_self (by omega)]
  rfl
theorem gI_ne {l : List Int} {x y v : Int} (h0 : 0 ≤ x) (h1 : 0 ≤ y) (h : x ≠ y) : gI (sI l x v) y = gI l y := by
  unfold gI sI
  rw [List.getD_eq_getElem?_getD, List.getElem?_set_ne (by omega), List.getD_eq_getElem?_getD]
/-- two rows of one length that hold the same -/
theorem gI_ext {l l' : List Int} (h : l.length = l'.length) (hh : ∀ x : Int, 0 ≤ x → x < l.length → gI l x = gI l' x) : l = l' := by
  apply List.ext_getElem?
  intro j
  by_cases hj : j < l.length
  · have e := hh j (by omega) (by omega)
    simp only [gI, Int.toNat_natCast, List.getD_eq_getElem?_getD] at e
    rw [List.getElem?_eq_getElem hj, List.getElem?_eq_getElem (by omega : j < l'.length)] at e ⊢
    simpa using e
  · rw [List.getElem?_eq_none (by omega), List.getElem?_eq_none (by omega)]
/-- java.util.Arrays.fill -/
theorem ct_fill (d : Nat) {h : List mC} {a : Nat} {l : List Int} {v : Int} (ha : 2 ≤ a) (hc : h[a]? = some (mA l)) (hl : l.length < 100000) : Rt (d + 0) mJ7_fill_53178 [mR a, mI v] h none (h.set a (mA (List.replicate l.length v))) := by
  have key : ∀ (j : Nat), j ≤ l.length → ∀ (h1 : List mC) (l1 : List Int) (x n : Int), x = j → n = l.length → l1.length = l.length → (∀ i, i < j → l1.getD i 0 = v) → h1[a]? = some (mA l1) → h1.set a (mA (List.replicate l.length v)) = h.set a (mA (List.replicate l.length v)) →
      Wp (d + 0) mJ7_fill_53178 5 [mR a, mI v, mI x, mI n] [] h1 (0, 0) (fun r' h' => r' = none ∧ h' = h.set a (mA (List.replicate l.length v))) := by
    refine loop_up l.length _ ?_ ?_
    · intro h1 l1 x n hx hn hl1 hp hc1 he
      refine wp_il2 (q := 6) dJ7_fill_53178_5 rfl (wp_il3 (q := 7) dJ7_fill_53178_6 rfl (wp_icmp_ge (t := 20) (q := 10) dJ7_fill_53178_7 rfl rfl (fun c7 => ?_) (fun c7 => ?_)))
      · refine wp_vret dJ7_fill_53178_20 rfl ?_
        refine ⟨rfl, ?_⟩
        rw [← he]
        have e : l1 = List.replicate l.length v := by
          apply List.ext_getElem?
          intro i
          by_cases hi : i < l.length
          · have := hp i hi
            rw [List.getD_eq_getElem?_getD, List.getElem?_eq_getElem (by omega : i < l1.length)] at this
            rw [List.getElem?_eq_getElem (by omega : i < l1.length), List.getElem?_replicate, if_pos hi]
            simpa using this
          · rw [List.getElem?_eq_none (by omega), List.getElem?_eq_none (by rw [List.length_replicate]; omega)]
        rw [← e]
        exact (gs_id hc1).symm
      · exfalso; omega
    · intro j hj ih h1 l1 x n hx hn hl1 hp hc1 he
      refine wp_il2 (q := 6) dJ7_fill_53178_5 rfl (wp_il3 (q := 7) dJ7_fill_53178_6 rfl (wp_icmp_ge (t := 20) (q := 10) dJ7_fill_53178_7 rfl rfl (fun c7 => ?_) (fun c7 => ?_)))
      · exfalso; omega
      · refine wp_al0 (q := 11) dJ7_fill_53178_10 rfl (wp_il2 (q := 12) dJ7_fill_53178_11 rfl (wp_il1 (q := 13) dJ7_fill_53178_12 rfl (wp_iastore (q := 14) dJ7_fill_53178_13 rfl ha hc1 (by omega) (by omega) (wp_ii2 (q := 17) dJ7_fill_53178_14 rfl rfl (by omega) (by omega) (wp_goto (q := 5) dJ7_fill_53178_17 rfl ?_)))))
        refine ih _ (l1.set x.toNat v) (x + 1) n (by omega) hn (by rw [List.length_set]; exact hl1) ?_ (gs_eq hc1) (by rw [gs_ss]; exact he)
        intro i hi
        rw [List.getD_eq_getElem?_getD, List.getElem?_set]
        by_cases e : x.toNat = i
        · rw [if_pos e, if_pos (by omega)]; rfl
        · rw [if_neg e]
          have := hp i (by omega)
          rw [List.getD_eq_getElem?_getD] at this
          exact this
  show Wp _ mJ7_fill_53178 0 [mR a, mI v, mU, mU] [] h (0, 0) _
  refine wp_ic (q := 1) dJ7_fill_53178_0 rfl (by decide) (by decide) (wp_is2 (q := 2) dJ7_fill_53178_1 rfl rfl (wp_al0 (q := 3) dJ7_fill_53178_2 rfl (wp_aleni (q := 4) dJ7_fill_53178_3 rfl hc (by omega) (wp_is3 (q := 5) dJ7_fill_53178_4 rfl rfl ?_))))
  exact key 0 (Nat.zero_le _) h l 0 _ rfl rfl rfl (fun i hi => absurd hi (Nat.not_lt_zero i)) hc rfl
/-- a held number as it is told -/
def tld (x : Int) : Int := if x = 8 then -9 else x
theorem ct_told (d : Nat) {h : List mC} {x : Int} : Rt (d + 0) mX3_told [mI x] h (some (mI (tld x))) (h) := by
  show Wp _ mX3_told 0 [mI x] [] h (0, 0) _
  refine wp_il0 (q := 1) dX3_told_0 rfl (wp_bi (q := 3) dX3_told_1 rfl (by decide) (by decide) (wp_icmp_ne (t := 11) (q := 6) dX3_told_3 rfl rfl (fun c3 => ?_) (fun c3 => ?_)))
  · refine wp_il0 (q := 12) dX3_told_11 rfl (wp_iret dX3_told_12 rfl ?_)
    exact ⟨by unfold tld; first | rw [if_pos c3] | rw [if_neg c3], rfl⟩
  · refine wp_bi (q := 8) dX3_told_6 rfl (by decide) (by decide) (wp_goto (q := 12) dX3_told_8 rfl (wp_iret dX3_told_12 rfl ?_))
    exact ⟨by unfold tld; first | rw [if_pos c3] | rw [if_neg c3], rfl⟩
def pts (r : Int) : Int := if 0 ≤ r ∧ r < 4 then gI mPT r else 1
theorem ct_partsOf (d : Nat) {h : List mC} {r : Int} (hp : h[0]? = some (mJ mPT)) : Rt (d + 0) mX3_partsOf [mI r] h (some (mL (pts r))) (h) := by
  have hl : mPT.length = 4 := rfl
  show Wp _ mX3_partsOf 0 [mI r] [] h (0, 0) _
  refine wp_il0 (q := 1) dX3_partsOf_0 rfl (wp_if_lt (t := 20) (q := 4) dX3_partsOf_1 rfl rfl (fun c1 => ?_) (fun c1 => ?_))
  · refine wp_lc1 (q := 21) dX3_partsOf_20 rfl (wp_lret dX3_partsOf_21 rfl ?_)
    exact ⟨by unfold pts gI; first | rw [if_pos (by omega)] | rw [if_neg (by omega)], rfl⟩
  · refine wp_il0 (q := 5) dX3_partsOf_4 rfl (wp_gets (q := 8) dX3_partsOf_5 rfl stL (wp_alenl (q := 9) dX3_partsOf_8 rfl hp (by omega) (wp_icmp_ge (t := 20) (q := 12) dX3_partsOf_9 rfl rfl (fun c9 => ?_) (fun c9 => ?_))))
    · refine wp_lc1 (q := 21) dX3_partsOf_20 rfl (wp_lret dX3_partsOf_21 rfl ?_)
      exact ⟨by unfold pts gI; first | rw [if_pos (by omega)] | rw [if_neg (by omega)], rfl⟩
    · refine wp_gets (q := 15) dX3_partsOf_12 rfl stL (wp_il0 (q := 16) dX3_partsOf_15 rfl (wp_laload (q := 17) dX3_partsOf_16 rfl hp (by omega) (by omega) (wp_goto (q := 21) dX3_partsOf_17 rfl (wp_lret dX3_partsOf_21 rfl ?_))))
      exact ⟨by unfold pts gI; first | rw [if_pos (by omega)] | rw [if_neg (by omega)], rfl⟩
