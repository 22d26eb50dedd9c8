/-! the roster (rows laid by wip/whole) -/
/-- a roster at k: how many, chances, rounds -/
def RoAt (h : List mC) (k : Nat) (n : Int) (ch ro : List Int) : Prop := 2 ≤ k ∧ h[k]? = some (mO 2 [mI n, mR (k + 1), mR (k + 2)]) ∧ h[k + 1]? = some (mA ch) ∧ h[k + 2]? = some (mA ro) ∧ ch.length = 64 ∧ ro.length = 64
theorem RoAt.fr {h h' : List mC} {k : Nat} {n : Int} {ch ro : List Int} (hB : RoAt h k n ch ro) (hf : ∀ j, k ≤ j → j < k + 3 → h'[j]? = h[j]?) : RoAt h' k n ch ro := by
  obtain ⟨b0, b1, b2, b3, b4, b5⟩ := hB
  exact ⟨b0, by rw [hf k (by omega) (by omega)]; exact b1, by rw [hf (k + 1) (by omega) (by omega)]; exact b2, by rw [hf (k + 2) (by omega) (by omega)]; exact b3, b4, b5⟩
theorem fr_set {h : List mC} {i j : Nat} {c : mC} (hn : i ≠ j) : (h.set i c)[j]? = h[j]? := List.getElem?_set_ne hn
theorem RoAt.setC {h : List mC} {k : Nat} {n : Int} {ch ro ch' : List Int} (hB : RoAt h k n ch ro) (hl : ch'.length = 64) : RoAt (h.set (k + 1) (mA ch')) k n ch' ro := by
  obtain ⟨b0, b1, b2, b3, b4, b5⟩ := hB
  exact ⟨b0, gs_ne b1 (by omega), gs_eq b2, gs_ne b3 (by omega), hl, b5⟩
theorem RoAt.setR {h : List mC} {k : Nat} {n : Int} {ch ro ro' : List Int} (hB : RoAt h k n ch ro) (hl : ro'.length = 64) : RoAt (h.set (k + 2) (mA ro')) k n ch ro' := by
  obtain ⟨b0, b1, b2, b3, b4, b5⟩ := hB
  exact ⟨b0, gs_ne b1 (by omega), gs_ne b2 (by omega), gs_eq b3, b4, hl⟩
theorem RoAt.setN {h : List mC} {k : Nat} {n n' : Int} {ch ro : List Int} (hB : RoAt h k n ch ro) : RoAt (h.set k (mO 2 [mI n', mR (k + 1), mR (k + 2)])) k n' ch ro := by
  obtain ⟨b0, b1, b2, b3, b4, b5⟩ := hB
  exact ⟨b0, gs_eq b1, gs_ne b2 (by omega), gs_ne b3 (by omega), b4, b5⟩
def chA (l : List Int) (a b : Int) (z : Int) : Int := if 0 ≤ a * 8 + b ∧ a * 8 + b < 64 then gI l (a * 8 + b) else z
theorem ct_Rhas (d : Nat) {h : List mC} {k : Nat} {n : Int} {ch ro : List Int} (hB : RoAt h k n ch ro) {x : Int} : Rt (d + 0) mX2_has [mR k, mI x] h (some (mI (bI (0 ≤ x ∧ x < n)))) (h) := by
  obtain ⟨b0, b1, b2, b3, b4, b5⟩ := id hB
  show Wp _ mX2_has 0 [mR k, mI x] [] h (0, 0) _
  refine wp_il1 (q := 1) dX2_has_0 rfl (wp_if_lt (t := 16) (q := 4) dX2_has_1 rfl rfl (fun c1 => ?_) (fun c1 => ?_))
  · refine wp_ic (q := 17) dX2_has_16 rfl (by decide) (by decide) (wp_bret dX2_has_17 rfl (by first | exact Or.inl rfl | exact Or.inr rfl | exact bI_01) ?_)
    exact ⟨by first | rw [bI_t (by omega)] | rw [bI_f (by omega)], rfl⟩
  · refine wp_il1 (q := 5) dX2_has_4 rfl (wp_al0 (q := 6) dX2_has_5 rfl (wp_getf (q := 9) dX2_has_6 rfl f0 b0 b1 rfl (fun z => nomatch z) (wp_icmp_ge (t := 16) (q := 12) dX2_has_9 rfl rfl (fun c9 => ?_) (fun c9 => ?_))))
    · refine wp_ic (q := 17) dX2_has_16 rfl (by decide) (by decide) (wp_bret dX2_has_17 rfl (by first | exact Or.inl rfl | exact Or.inr rfl | exact bI_01) ?_)
      exact ⟨by first | rw [bI_t (by omega)] | rw [bI_f (by omega)], rfl⟩
    · refine wp_ic (q := 13) dX2_has_12 rfl (by decide) (by decide) (wp_goto (q := 17) dX2_has_13 rfl (wp_bret dX2_has_17 rfl (by first | exact Or.inl rfl | exact Or.inr rfl | exact bI_01) ?_))
      exact ⟨by first | rw [bI_t (by omega)] | rw [bI_f (by omega)], rfl⟩
theorem ct_chanceOf (d : Nat) {h : List mC} {k : Nat} {n : Int} {ch ro : List Int} (hB : RoAt h k n ch ro) {x y : Int} (hx0 : -100 ≤ x) (hx1 : x ≤ 100) (hy0 : -100 ≤ y) (hy1 : y ≤ 100) : Rt (d + 0) mX2_chanceOf [mR k, mI x, mI y] h (some (mI (chA ch x y 0))) (h) := by
  obtain ⟨b0, b1, b2, b3, b4, b5⟩ := id hB
  show Wp _ mX2_chanceOf 0 [mR k, mI x, mI y, mU] [] h (0, 0) _
  refine wp_il1 (q := 1) dX2_chanceOf_0 rfl (wp_bi (q := 3) dX2_chanceOf_1 rfl (by decide) (by decide) (wp_imul (q := 4) dX2_chanceOf_3 rfl (by omega) (by omega) (wp_il2 (q := 5) dX2_chanceOf_4 rfl (wp_iadd (q := 6) dX2_chanceOf_5 rfl (by omega) (by omega) (wp_is3 (q := 7) dX2_chanceOf_6 rfl rfl (wp_il3 (q := 8) dX2_chanceOf_7 rfl (wp_if_lt (t := 29) (q := 11) dX2_chanceOf_8 rfl rfl (fun c8 => ?_) (fun c8 => ?_))))))))
  · refine wp_ic (q := 30) dX2_chanceOf_29 rfl (by decide) (by decide) (wp_iret dX2_chanceOf_30 rfl ?_)
    exact ⟨by unfold chA gI; first | rw [if_pos (by omega)] | rw [if_neg (by omega)], rfl⟩
  · refine wp_il3 (q := 12) dX2_chanceOf_11 rfl (wp_al0 (q := 13) dX2_chanceOf_12 rfl (wp_getf (q := 16) dX2_chanceOf_13 rfl f3 b0 b1 rfl (fun z => nomatch z) (wp_aleni (q := 17) dX2_chanceOf_16 rfl b2 (by omega) (wp_icmp_ge (t := 29) (q := 20) dX2_chanceOf_17 rfl rfl (fun c17 => ?_) (fun c17 => ?_)))))
    · refine wp_ic (q := 30) dX2_chanceOf_29 rfl (by decide) (by decide) (wp_iret dX2_chanceOf_30 rfl ?_)
      exact ⟨by unfold chA gI; first | rw [if_pos (by omega)] | rw [if_neg (by omega)], rfl⟩
    · refine wp_al0 (q := 21) dX2_chanceOf_20 rfl (wp_getf (q := 24) dX2_chanceOf_21 rfl f3 b0 b1 rfl (fun z => nomatch z) (wp_il3 (q := 25) dX2_chanceOf_24 rfl (wp_iaload (q := 26) dX2_chanceOf_25 rfl b2 (by omega) (by omega) (wp_goto (q := 30) dX2_chanceOf_26 rfl (wp_iret dX2_chanceOf_30 rfl ?_)))))
      exact ⟨by unfold chA gI; first | rw [if_pos (by omega)] | rw [if_neg (by omega)], rfl⟩
theorem ct_apartUntil (d : Nat) {h : List mC} {k : Nat} {n : Int} {ch ro : List Int} (hB : RoAt h k n ch ro) {x y : Int} (hx0 : -100 ≤ x) (hx1 : x ≤ 100) (hy0 : -100 ≤ y) (hy1 : y ≤ 100) : Rt (d + 0) mX2_apartUntil [mR k, mI x, mI y] h (some (mI (chA ro x y 1))) (h) := by
  obtain ⟨b0, b1, b2, b3, b4, b5⟩ := id hB
  show Wp _ mX2_apartUntil 0 [mR k, mI x, mI y, mU] [] h (0, 0) _
  refine wp_il1 (q := 1) dX2_apartUntil_0 rfl (wp_bi (q := 3) dX2_apartUntil_1 rfl (by decide) (by decide) (wp_imul (q := 4) dX2_apartUntil_3 rfl (by omega) (by omega) (wp_il2 (q := 5) dX2_apartUntil_4 rfl (wp_iadd (q := 6) dX2_apartUntil_5 rfl (by omega) (by omega) (wp_is3 (q := 7) dX2_apartUntil_6 rfl rfl (wp_il3 (q := 8) dX2_apartUntil_7 rfl (wp_if_lt (t := 29) (q := 11) dX2_apartUntil_8 rfl rfl (fun c8 => ?_) (fun c8 => ?_))))))))
  · refine wp_ic (q := 30) dX2_apartUntil_29 rfl (by decide) (by decide) (wp_iret dX2_apartUntil_30 rfl ?_)
    exact ⟨by unfold chA gI; first | rw [if_pos (by omega)] | rw [if_neg (by omega)], rfl⟩
  · refine wp_il3 (q := 12) dX2_apartUntil_11 rfl (wp_al0 (q := 13) dX2_apartUntil_12 rfl (wp_getf (q := 16) dX2_apartUntil_13 rfl f4 b0 b1 rfl (fun z => nomatch z) (wp_aleni (q := 17) dX2_apartUntil_16 rfl b3 (by omega) (wp_icmp_ge (t := 29) (q := 20) dX2_apartUntil_17 rfl rfl (fun c17 => ?_) (fun c17 => ?_)))))
    · refine wp_ic (q := 30) dX2_apartUntil_29 rfl (by decide) (by decide) (wp_iret dX2_apartUntil_30 rfl ?_)
      exact ⟨by unfold chA gI; first | rw [if_pos (by omega)] | rw [if_neg (by omega)], rfl⟩
    · refine wp_al0 (q := 21) dX2_apartUntil_20 rfl (wp_getf (q := 24) dX2_apartUntil_21 rfl f4 b0 b1 rfl (fun z => nomatch z) (wp_il3 (q := 25) dX2_apartUntil_24 rfl (wp_iaload (q := 26) dX2_apartUntil_25 rfl b3 (by omega) (by omega) (wp_goto (q := 30) dX2_apartUntil_26 rfl (wp_iret dX2_apartUntil_30 rfl ?_)))))
      exact ⟨by unfold chA gI; first | rw [if_pos (by omega)] | rw [if_neg (by omega)], rfl⟩
theorem ct_setCell (d : Nat) {h : List mC} {a : Nat} {l : List Int} {x v : Int} (ha : 2 ≤ a) (hc : h[a]? = some (mA l)) (hl : l.length < 100000) (h0 : 0 ≤ x) (h1 : x < l.length) : Rt (d + 0) mX2_setCell [mR a, mI x, mI v] h (none) (h.set a (mA (sI l x v))) := by
  show Wp _ mX2_setCell 0 [mR a, mI x, mI v] [] h (0, 0) _
  refine wp_il1 (q := 1) dX2_setCell_0 rfl (wp_if_lt (t := 14) (q := 4) dX2_setCell_1 rfl rfl (fun c1 => ?_) (fun c1 => ?_))
  · exfalso; omega
  · refine wp_il1 (q := 5) dX2_setCell_4 rfl (wp_al0 (q := 6) dX2_setCell_5 rfl (wp_aleni (q := 7) dX2_setCell_6 rfl hc (by omega) (wp_icmp_ge (t := 14) (q := 10) dX2_setCell_7 rfl rfl (fun c7 => ?_) (fun c7 => ?_))))
    · exfalso; omega
    · refine wp_al0 (q := 11) dX2_setCell_10 rfl (wp_il1 (q := 12) dX2_setCell_11 rfl (wp_il2 (q := 13) dX2_setCell_12 rfl (wp_iastore (q := 14) dX2_setCell_13 rfl ha hc (by omega) (by omega) (wp_vret dX2_setCell_14 rfl ?_))))
      exact ⟨rfl, rfl⟩
theorem ct_setChance (d : Nat) {h : List mC} {k : Nat} {n : Int} {ch ro : List Int} (hB : RoAt h k n ch ro) {x y v : Int} (hx0 : 0 ≤ x) (hx1 : x < 8) (hy0 : 0 ≤ y) (hy1 : y < 8) (hv0 : 0 ≤ v) (hv1 : v ≤ 12) : Rt (d + 1) mX2_setChance [mR k, mI x, mI y, mI v] h (none) (h.set (k + 1) (mA (sI (sI ch (x * 8 + y) v) (y * 8 + x) (12 - v)))) := by
  obtain ⟨b0, b1, b2, b3, b4, b5⟩ := id hB
  show Wp _ mX2_setChance 0 [mR k, mI x, mI y, mI v] [] h (0, 0) _
  refine wp_al0 (q := 1) dX2_setChance_0 rfl (wp_getf (q := 4) dX2_setChance_1 rfl f3 b0 b1 rfl (fun z => nomatch z) (wp_il1 (q := 5) dX2_setChance_4 rfl (wp_bi (q := 7) dX2_setChance_5 rfl (by decide) (by decide) (wp_imul (q := 8) dX2_setChance_7 rfl (by omega) (by omega) (wp_il2 (q := 9) dX2_setChance_8 rfl (wp_iadd (q := 10) dX2_setChance_9 rfl (by omega) (by omega) (wp_il3 (q := 11) dX2_setChance_10 rfl (wp_s3V (q := 14) dX2_setChance_11 rfl q17 (Nat.le_of_ble_eq_true rfl) rfl rfl rfl (ct_setCell d (by omega) b2 (by omega) (by omega) (by omega)) ?_))))))))
  have hB := hB.setC (ch' := sI ch (x * 8 + y) v) (by rw [sI_len]; omega)
  obtain ⟨b0, b1, b2, b3, b4, b5⟩ := id hB
  refine wp_al0 (q := 15) dX2_setChance_14 rfl (wp_getf (q := 18) dX2_setChance_15 rfl f3 b0 b1 rfl (fun z => nomatch z) (wp_il2 (q := 19) dX2_setChance_18 rfl (wp_bi (q := 21) dX2_setChance_19 rfl (by decide) (by decide) (wp_imul (q := 22) dX2_setChance_21 rfl (by omega) (by omega) (wp_il1 (q := 23) dX2_setChance_22 rfl (wp_iadd (q := 24) dX2_setChance_23 rfl (by omega) (by omega) (wp_bi (q := 26) dX2_setChance_24 rfl (by decide) (by decide) (wp_il3 (q := 27) dX2_setChance_26 rfl (wp_isub (q := 28) dX2_setChance_27 rfl (by omega) (by omega) (wp_s3V (q := 31) dX2_setChance_28 rfl q17 (Nat.le_of_ble_eq_true rfl) rfl rfl rfl (ct_setCell d (by omega) b2 (by omega) (by omega) (by omega)) (wp_vret dX2_setChance_31 rfl ?_)))))))))))
  exact ⟨rfl, gs_ss⟩
theorem ct_setApart (d : Nat) {h : List mC} {k : Nat} {n : Int} {ch ro : List Int} (hB : RoAt h k n ch ro) {x y v : Int} (hx0 : 0 ≤ x) (hx1 : x < 8) (hy0 : 0 ≤ y) (hy1 : y < 8) (hv0 : 0 ≤ v) (hv1 : v ≤ 12) : Rt (d + 1) mX2_setApart [mR k, mI x, mI y, mI v] h (none) (h.set (k + 2) (mA (sI (sI ro (x * 8 + y) v) (y * 8 + x) v))) := by
  obtain ⟨b0, b1, b2, b3, b4, b5⟩ := id hB
  show Wp _ mX2_setApart 0 [mR k, mI x, mI y, mI v] [] h (0, 0) _
  refine wp_al0 (q := 1) dX2_setApart_0 rfl (wp_getf (q := 4) dX2_setApart_1 rfl f4 b0 b1 rfl (fun z => nomatch z) (wp_il1 (q := 5) dX2_setApart_4 rfl (wp_bi (q := 7) dX2_setApart_5 rfl (by decide) (by decide) (wp_imul (q := 8) dX2_setApart_7 rfl (by omega) (by omega) (wp_il2 (q := 9) dX2_setApart_8 rfl (wp_iadd (q := 10) dX2_setApart_9 rfl (by omega) (by omega) (wp_il3 (q := 11) dX2_setApart_10 rfl (wp_s3V (q := 14) dX2_setApart_11 rfl q17 (Nat.le_of_ble_eq_true rfl) rfl rfl rfl (ct_setCell d (by omega) b3 (by omega) (by omega) (by omega)) ?_))))))))
  have hB := hB.setR (ro' := sI ro (x * 8 + y) v) (by rw [sI_len]; omega)
  obtain ⟨b0, b1, b2, b3, b4, b5⟩ := id hB
  refine wp_al0 (q := 15) dX2_setApart_14 rfl (wp_getf (q := 18) dX2_setApart_15 rfl f4 b0 b1 rfl (fun z => nomatch z) (wp_il2 (q := 19) dX2_setApart_18 rfl (wp_bi (q := 21) dX2_setApart_19 rfl (by decide) (by decide) (wp_imul (q := 22) dX2_setApart_21 rfl (by omega) (by omega) (wp_il1 (q := 23) dX2_setApart_22 rfl (wp_iadd (q := 24) dX2_setApart_23 rfl (by omega) (by omega) (wp_il3 (q := 25) dX2_setApart_24 rfl (wp_s3V (q := 28) dX2_setApart_25 rfl q17 (Nat.le_of_ble_eq_true rfl) rfl rfl rfl (ct_setCell d (by omega) b3 (by omega) (by omega) (by omega)) (wp_vret dX2_setApart_28 rfl ?_)))))))))
  exact ⟨rfl, gs_ss⟩
theorem ct_renew (d : Nat) {h : List mC} {k : Nat} {n : Int} {ch ro : List Int} (hB : RoAt h k n ch ro) {x : Int} : Rt (d + 1) mX2_renew [mR k, mI x] h (none) (((h.set k (mO 2 [mI x, mR (k + 1), mR (k + 2)])).set (k + 1) (mA (List.replicate 64 6))).set (k + 2) (mA (List.replicate 64 1))) := by
  obtain ⟨b0, b1, b2, b3, b4, b5⟩ := id hB
  show Wp _ mX2_renew 0 [mR k, mI x] [] h (0, 0) _
  refine wp_al0 (q := 1) dX2_renew_0 rfl (wp_il1 (q := 2) dX2_renew_1 rfl (wp_putf (q := 5) dX2_renew_2 rfl f0 b0 b1 (Nat.le_of_ble_eq_true rfl) trivial (fun z => absurd z (by decide)) ?_))
  have hB := hB.setN (n' := x)
  obtain ⟨b0, b1, b2, b3, b4, b5⟩ := id hB
  refine wp_al0 (q := 6) dX2_renew_5 rfl (wp_getf (q := 9) dX2_renew_6 rfl f3 b0 b1 rfl (fun z => nomatch z) (wp_bi (q := 11) dX2_renew_9 rfl (by decide) (by decide) (wp_s2V (q := 14) dX2_renew_11 rfl q3 (Nat.le_of_ble_eq_true rfl) rfl rfl rfl (by have := ct_fill d (v := 6) (by omega) b2 (by omega); rw [b4] at this; exact this) ?_)))
  have hB := hB.setC (ch' := List.replicate 64 6) (by rw [List.length_replicate])
  obtain ⟨b0, b1, b2, b3, b4, b5⟩ := id hB
  refine wp_al0 (q := 15) dX2_renew_14 rfl (wp_getf (q := 18) dX2_renew_15 rfl f4 b0 b1 rfl (fun z => nomatch z) (wp_ic (q := 19) dX2_renew_18 rfl (by decide) (by decide) (wp_s2V (q := 22) dX2_renew_19 rfl q3 (Nat.le_of_ble_eq_true rfl) rfl rfl rfl (by have := ct_fill d (v := 1) (by omega) b3 (by omega); rw [b5] at this; exact this) (wp_vret dX2_renew_22 rfl ?_))))
  exact ⟨rfl, rfl⟩
def sumN (f : Nat → Int) : Nat → Int
  | 0 => 0
  | n + 1 => sumN f n + f n
theorem sumN_le {f : Nat → Int} {c : Int} : ∀ n : Nat, (∀ i, i < n → 0 ≤ f i ∧ f i ≤ c) → 0 ≤ sumN f n ∧ sumN f n ≤ n * c
  | 0, _ => ⟨Int.le_refl _, by simp [sumN]⟩
  | n + 1, hf => by
    have ih := sumN_le n (fun i hi => hf i (by omega))
    have := hf n (by omega)
    unfold sumN
    refine ⟨by omega, ?_⟩
    rw [show (((n + 1 : Nat) : Int)) * c = n * c + c by rw [Int.natCast_add, Int.add_mul]; simp]
    omega
/-- how many pairs are apart -/
def paR (ro : List Int) (n : Int) (x : Nat) : Int := sumN (fun i => bI (chA ro x (x + 1 + i) 1 ≠ 1)) (n - (x + 1)).toNat
theorem ct_pairsApart (d : Nat) {h : List mC} {k : Nat} {n : Int} {ch ro : List Int} (hB : RoAt h k n ch ro) (hn0 : 0 ≤ n) (hn1 : n ≤ 8) : Rt (d + 1) mX2_pairsApart [mR k] h (some (mI (sumN (paR ro n) n.toNat))) h := by
  obtain ⟨b0, b1, b2, b3, b4, b5⟩ := id hB
  have bo : ∀ j, j ≤ 8 → 0 ≤ sumN (paR ro n) j ∧ sumN (paR ro n) j ≤ j * 64 := fun j hj => sumN_le j (fun i hi => by
    have := sumN_le (f := fun i' => bI (chA ro i (i + 1 + i') 1 ≠ 1)) (c := 1) (n - (i + 1)).toNat (fun i' _ => by rcases bI_01 (p := chA ro i (i + 1 + i') 1 ≠ 1) with e | e <;> rw [e] <;> omega)
    unfold paR
    omega)
  have key : ∀ (j : Nat), j ≤ n.toNat → ∀ (x c : Int) (u : mV), x = j → c = sumN (paR ro n) j → mLong u = false → Wp (d + 1) mX2_pairsApart 4 [mR k, mI c, mI x, u] [] h (0, 0) (fun r' h' => r' = some (mI (sumN (paR ro n) n.toNat)) ∧ h' = h) := by
    refine loop_up n.toNat _ ?_ ?_
    · intro x c u hx hc hu
      refine wp_il2 (q := 5) dX2_pairsApart_4 rfl (wp_al0 (q := 6) dX2_pairsApart_5 rfl (wp_getf (q := 9) dX2_pairsApart_6 rfl f0 b0 b1 rfl (fun z => nomatch z) (wp_icmp_ge (t := 49) (q := 12) dX2_pairsApart_9 rfl rfl (fun c9 => ?_) (fun c9 => ?_))))
      · refine wp_il1 (q := 50) dX2_pairsApart_49 rfl (wp_iret dX2_pairsApart_50 rfl ?_)
        exact ⟨by rw [hc], rfl⟩
      · exfalso; omega
    · intro j hj ih x c u hx hc hu
      have hb := bo j (by omega)
      have inner : ∀ (i : Nat), i ≤ (n - (j + 1)).toNat → ∀ (y c2 : Int), y = j + 1 + i → c2 = c + sumN (fun i => bI (chA ro j (j + 1 + i) 1 ≠ 1)) i → Wp (d + 1) mX2_pairsApart 16 [mR k, mI c2, mI x, mI y] [] h (0, 0) (fun r' h' => r' = some (mI (sumN (paR ro n) n.toNat)) ∧ h' = h) := by
        refine loop_up (n - (j + 1)).toNat _ ?_ ?_
        · intro y c2 hy hc2
          refine wp_il3 (q := 17) dX2_pairsApart_16 rfl (wp_al0 (q := 18) dX2_pairsApart_17 rfl (wp_getf (q := 21) dX2_pairsApart_18 rfl f0 b0 b1 rfl (fun z => nomatch z) (wp_icmp_ge (t := 43) (q := 24) dX2_pairsApart_21 rfl rfl (fun c21 => ?_) (fun c21 => ?_))))
          · refine wp_ii2 (q := 46) dX2_pairsApart_43 rfl rfl (by omega) (by omega) (wp_goto (q := 4) dX2_pairsApart_46 rfl ?_)
            exact ih _ _ _ (by omega) (by rw [hc2, hc]; rfl) rfl
          · exfalso; omega
        · intro i hi ih2 y c2 hy hc2
          have hb2 := sumN_le (f := fun i' => bI (chA ro j (j + 1 + i') 1 ≠ 1)) (c := 1) i (fun i' _ => by rcases bI_01 (p := chA ro j (j + 1 + i') 1 ≠ 1) with e | e <;> rw [e] <;> omega)
          refine wp_il3 (q := 17) dX2_pairsApart_16 rfl (wp_al0 (q := 18) dX2_pairsApart_17 rfl (wp_getf (q := 21) dX2_pairsApart_18 rfl f0 b0 b1 rfl (fun z => nomatch z) (wp_icmp_ge (t := 43) (q := 24) dX2_pairsApart_21 rfl rfl (fun c21 => ?_) (fun c21 => ?_))))
          · exfalso; omega
          · refine wp_al0 (q := 25) dX2_pairsApart_24 rfl (wp_il2 (q := 26) dX2_pairsApart_25 rfl (wp_il3 (q := 27) dX2_pairsApart_26 rfl (wp_v2I (q := 30) dX2_pairsApart_27 rfl q116 (Nat.le_of_ble_eq_true rfl) rfl b0 b1 rfl rfl (ct_apartUntil d hB (by omega) (by omega) (by omega) (by omega)) (wp_ic (q := 31) dX2_pairsApart_30 rfl (by decide) (by decide) (wp_icmp_eq (t := 37) (q := 34) dX2_pairsApart_31 rfl rfl (fun c31 => ?_) (fun c31 => ?_))))))
            · refine wp_ii3 (q := 40) dX2_pairsApart_37 rfl rfl (by omega) (by omega) (wp_goto (q := 16) dX2_pairsApart_40 rfl ?_)
              refine ih2 _ _ (by omega) ?_
              have e0 : chA ro x y 1 = chA ro j (j + 1 + i) 1 := by rw [hx, hy]
              have e1 : sumN (fun i => bI (chA ro j (j + 1 + i) 1 ≠ 1)) (i + 1) = sumN (fun i => bI (chA ro j (j + 1 + i) 1 ≠ 1)) i + bI (chA ro j (j + 1 + i) 1 ≠ 1) := rfl
              rw [e0] at c31
              rw [e1]
              first
                | (rw [bI_t c31]; omega)
                | (rw [bI_f (fun z => z c31)]; omega)
            · refine wp_ii1 (q := 37) dX2_pairsApart_34 rfl rfl (by omega) (by omega) (wp_ii3 (q := 40) dX2_pairsApart_37 rfl rfl (by omega) (by omega) (wp_goto (q := 16) dX2_pairsApart_40 rfl ?_))
              refine ih2 _ _ (by omega) ?_
              have e0 : chA ro x y 1 = chA ro j (j + 1 + i) 1 := by rw [hx, hy]
              have e1 : sumN (fun i => bI (chA ro j (j + 1 + i) 1 ≠ 1)) (i + 1) = sumN (fun i => bI (chA ro j (j + 1 + i) 1 ≠ 1)) i + bI (chA ro j (j + 1 + i) 1 ≠ 1) := rfl
              rw [e0] at c31
              rw [e1]
              first
                | (rw [bI_t c31]; omega)
                | (rw [bI_f (fun z => z c31)]; omega)
      refine wp_il2 (q := 5) dX2_pairsApart_4 rfl (wp_al0 (q := 6) dX2_pairsApart_5 rfl (wp_getf (q := 9) dX2_pairsApart_6 rfl f0 b0 b1 rfl (fun z => nomatch z) (wp_icmp_ge (t := 49) (q := 12) dX2_pairsApart_9 rfl rfl (fun c9 => ?_) (fun c9 => ?_))))
      · exfalso; omega
      · refine wp_il2 (q := 13) dX2_pairsApart_12 rfl (wp_ic (q := 14) dX2_pairsApart_13 rfl (by decide) (by decide) (wp_iadd (q := 15) dX2_pairsApart_14 rfl (by omega) (by omega) (wp_is3 (q := 16) dX2_pairsApart_15 rfl rfl ?_)))
        exact inner 0 (Nat.zero_le _) _ _ (by omega) (by rw [show sumN (fun i : Nat => bI (chA ro j (j + 1 + i) 1 ≠ 1)) 0 = 0 from rfl]; omega)
  show Wp _ mX2_pairsApart 0 [mR k, mU, mU, mU] [] h (0, 0) _
  refine wp_ic (q := 1) dX2_pairsApart_0 rfl (by decide) (by decide) (wp_is1 (q := 2) dX2_pairsApart_1 rfl rfl (wp_ic (q := 3) dX2_pairsApart_2 rfl (by decide) (by decide) (wp_is2 (q := 4) dX2_pairsApart_3 rfl rfl ?_)))
  exact key 0 (Nat.zero_le _) 0 0 mU rfl rfl rfl
