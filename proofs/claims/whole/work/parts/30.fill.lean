/-! the list of draws: made (rows laid by wip/whole) -/
theorem Rt.up {d D : Nat} {M : mM} {As : List mV} {h h2 : List mC} {r : Option mV} (k : Rt d M As h r h2) (hl : d ≤ D) : Rt D M As h r h2 := by
  have z := k.deep (D - d)
  rw [show d + (D - d) = D by omega] at z
  exact z
theorem Ct.up {d D : Nat} {M : mM} {As : List mV} {h : List mC} {Q : Option mV → List mC → Prop} (k : Ct d M As h Q) (hl : d ≤ D) : Ct D M As h Q := by
  have z := k.deep (D - d)
  rw [show d + (D - d) = D by omega] at z
  exact z
def pcN (u : Nat) : Int := sumN (fun i => bI (u.testBit i = true)) 8
set_option maxRecDepth 100000 in
theorem bits_all : ∀ u : Nat, u < 256 → ∀ p : Nat, p < 8 → mAnd (mShr (u : Int) (p : Int)) 1 = bI (u.testBit p = true) ∧ mOr (u : Int) (mShl 1 (p : Int)) = ((u ||| 2 ^ p : Nat) : Int) ∧ u ||| 2 ^ p < 256 := by decide +kernel
def bc1 (x : Int) : Int := x - mAnd (mUshr x 1) 1431655765
def bc2 (x : Int) : Int := mAnd (bc1 x) 858993459 + mAnd (mUshr (bc1 x) 2) 858993459
def bc3 (x : Int) : Int := mAnd (bc2 x + mUshr (bc2 x) 4) 252645135
def bc4 (x : Int) : Int := bc3 x + mUshr (bc3 x) 8
def bc5 (x : Int) : Int := bc4 x + mUshr (bc4 x) 16
abbrev bcI (x : Int) : Prop := -2147483648 ≤ x ∧ x ≤ 2147483647
set_option maxRecDepth 100000 in
theorem bc_all : ∀ u : Nat, u < 256 → bcI (bc1 u) ∧ bcI (bc2 u) ∧ bcI (bc2 u + mUshr (bc2 u) 4) ∧ bcI (bc4 u) ∧ bcI (bc5 u) ∧ mAnd (bc5 u) 63 = pcN u := by decide +kernel
theorem ct_bitCount (d : Nat) {h : List mC} {u : Nat} (hu : u < 256) : Rt (d + 0) mJ6_bitCount_0f7a4 [mI u] h (some (mI (pcN u))) h := by
  obtain ⟨⟨g1, g2⟩, ⟨g3, g4⟩, ⟨g5, g6⟩, ⟨g7, g8⟩, ⟨g9, g10⟩, g11⟩ := bc_all u hu
  show Wp _ mJ6_bitCount_0f7a4 0 [mI u] [] h (0, 0) _
  refine wp_il0 (q := 1) dJ6_bitCount_0f7a4_0 rfl (wp_il0 (q := 2) dJ6_bitCount_0f7a4_1 rfl (wp_ic (q := 3) dJ6_bitCount_0f7a4_2 rfl (by decide) (by decide) (wp_iushr _ (q := 4) dJ6_bitCount_0f7a4_3 rfl rfl (wp_ldi (1431655765) (q := 7) dJ6_bitCount_0f7a4_4 rfl l4 (by decide) (by decide) (wp_iand _ (q := 8) dJ6_bitCount_0f7a4_7 rfl rfl (wp_isub (q := 9) dJ6_bitCount_0f7a4_8 rfl (by first | exact g1 | exact g2 | exact g3 | exact g4 | exact g5 | exact g6 | exact g7 | exact g8 | exact g9 | exact g10) (by first | exact g1 | exact g2 | exact g3 | exact g4 | exact g5 | exact g6 | exact g7 | exact g8 | exact g9 | exact g10) (wp_is0 (q := 10) dJ6_bitCount_0f7a4_9 rfl (wp_il0 (q := 11) dJ6_bitCount_0f7a4_10 rfl (wp_ldi (858993459) (q := 14) dJ6_bitCount_0f7a4_11 rfl l5 (by decide) (by decide) (wp_iand _ (q := 15) dJ6_bitCount_0f7a4_14 rfl rfl (wp_il0 (q := 16) dJ6_bitCount_0f7a4_15 rfl (wp_ic (q := 17) dJ6_bitCount_0f7a4_16 rfl (by decide) (by decide) (wp_iushr _ (q := 18) dJ6_bitCount_0f7a4_17 rfl rfl ?_)))))))))))))
  refine wp_ldi (858993459) (q := 21) dJ6_bitCount_0f7a4_18 rfl l5 (by decide) (by decide) (wp_iand _ (q := 22) dJ6_bitCount_0f7a4_21 rfl rfl (wp_iadd (q := 23) dJ6_bitCount_0f7a4_22 rfl (by first | exact g1 | exact g2 | exact g3 | exact g4 | exact g5 | exact g6 | exact g7 | exact g8 | exact g9 | exact g10) (by first | exact g1 | exact g2 | exact g3 | exact g4 | exact g5 | exact g6 | exact g7 | exact g8 | exact g9 | exact g10) (wp_is0 (q := 24) dJ6_bitCount_0f7a4_23 rfl (wp_il0 (q := 25) dJ6_bitCount_0f7a4_24 rfl (wp_il0 (q := 26) dJ6_bitCount_0f7a4_25 rfl (wp_ic (q := 27) dJ6_bitCount_0f7a4_26 rfl (by decide) (by decide) (wp_iushr _ (q := 28) dJ6_bitCount_0f7a4_27 rfl rfl (wp_iadd (q := 29) dJ6_bitCount_0f7a4_28 rfl (by first | exact g1 | exact g2 | exact g3 | exact g4 | exact g5 | exact g6 | exact g7 | exact g8 | exact g9 | exact g10) (by first | exact g1 | exact g2 | exact g3 | exact g4 | exact g5 | exact g6 | exact g7 | exact g8 | exact g9 | exact g10) (wp_ldi (252645135) (q := 32) dJ6_bitCount_0f7a4_29 rfl l6 (by decide) (by decide) (wp_iand _ (q := 33) dJ6_bitCount_0f7a4_32 rfl rfl (wp_is0 (q := 34) dJ6_bitCount_0f7a4_33 rfl (wp_il0 (q := 35) dJ6_bitCount_0f7a4_34 rfl (wp_il0 (q := 36) dJ6_bitCount_0f7a4_35 rfl ?_)))))))))))))
  refine wp_bi (q := 38) dJ6_bitCount_0f7a4_36 rfl (by decide) (by decide) (wp_iushr _ (q := 39) dJ6_bitCount_0f7a4_38 rfl rfl (wp_iadd (q := 40) dJ6_bitCount_0f7a4_39 rfl (by first | exact g1 | exact g2 | exact g3 | exact g4 | exact g5 | exact g6 | exact g7 | exact g8 | exact g9 | exact g10) (by first | exact g1 | exact g2 | exact g3 | exact g4 | exact g5 | exact g6 | exact g7 | exact g8 | exact g9 | exact g10) (wp_is0 (q := 41) dJ6_bitCount_0f7a4_40 rfl (wp_il0 (q := 42) dJ6_bitCount_0f7a4_41 rfl (wp_il0 (q := 43) dJ6_bitCount_0f7a4_42 rfl (wp_bi (q := 45) dJ6_bitCount_0f7a4_43 rfl (by decide) (by decide) (wp_iushr _ (q := 46) dJ6_bitCount_0f7a4_45 rfl rfl (wp_iadd (q := 47) dJ6_bitCount_0f7a4_46 rfl (by first | exact g1 | exact g2 | exact g3 | exact g4 | exact g5 | exact g6 | exact g7 | exact g8 | exact g9 | exact g10) (by first | exact g1 | exact g2 | exact g3 | exact g4 | exact g5 | exact g6 | exact g7 | exact g8 | exact g9 | exact g10) (wp_is0 (q := 48) dJ6_bitCount_0f7a4_47 rfl (wp_il0 (q := 49) dJ6_bitCount_0f7a4_48 rfl (wp_bi (q := 51) dJ6_bitCount_0f7a4_49 rfl (by decide) (by decide) (wp_iand _ (q := 52) dJ6_bitCount_0f7a4_51 rfl rfl (wp_iret dJ6_bitCount_0f7a4_52 rfl ?_)))))))))))))
  exact ⟨rI g11, rfl⟩
theorem ct_keepRow (d : Nat) {h : List mC} {k : Nat} {ln : Int} {rw rs lo : List Int} (hL : LiAt h k ln rw rs lo) : Ct (d + 1) mX1_keepRow [mR k] h (fun r9 h9 => r9 = none ∧ h9 = if ln < 315 then (h.set (k + 2) (mA (mCpy rw rs (0 : Int).toNat (ln * 8).toNat (8 : Int).toNat))).set k (mO 1 [mI (ln + 1), mR (k + 1), mR (k + 2), mR (k + 3)]) else h) := by
  obtain ⟨a0, a1, a2, a3, a4, a5, a6, a7, a8, a9⟩ := id hL
  show Wp _ mX1_keepRow 0 [mR k] [] h (0, 0) _
  refine wp_al0 (q := 1) dX1_keepRow_0 rfl (wp_getf (q := 4) dX1_keepRow_1 rfl f11 a0 a1 rfl (fun z => nomatch z) (wp_si (q := 7) dX1_keepRow_4 rfl (by decide) (by decide) (wp_icmp_ge (t := 41) (q := 10) dX1_keepRow_7 rfl rfl (fun c7 => ?_) (fun c7 => ?_))))
  · refine wp_vret dX1_keepRow_41 rfl ?_
    first
      | (refine ⟨rfl, ?_⟩; rw [if_pos c7]; rfl)
      | exact ⟨rfl, by rw [if_neg (by omega)]⟩
  · refine wp_al0 (q := 11) dX1_keepRow_10 rfl (wp_getf (q := 14) dX1_keepRow_11 rfl f13 a0 a1 rfl (fun z => nomatch z) (wp_ic (q := 15) dX1_keepRow_14 rfl (by decide) (by decide) (wp_al0 (q := 16) dX1_keepRow_15 rfl (wp_getf (q := 19) dX1_keepRow_16 rfl f14 a0 a1 rfl (fun z => nomatch z) (wp_al0 (q := 20) dX1_keepRow_19 rfl (wp_getf (q := 23) dX1_keepRow_20 rfl f11 a0 a1 rfl (fun z => nomatch z) (wp_bi (q := 25) dX1_keepRow_23 rfl (by decide) (by decide) (wp_imul (q := 26) dX1_keepRow_25 rfl (by omega) (by omega) (wp_bi (q := 28) dX1_keepRow_26 rfl (by decide) (by decide) (wp_copy (q := 31) dX1_keepRow_28 rfl acL (Nat.le_of_ble_eq_true rfl) (by omega) (by omega) a2 a3 (by omega) (by omega) (by omega) (by omega) (by omega) ?_))))))))))
    have hL := hL.setR (rs' := mCpy rw rs (0 : Int).toNat (ln * 8).toNat (8 : Int).toNat) (by unfold mCpy; rw [List.length_map, List.length_range]; exact a6)
    obtain ⟨a0, a1, a2, a3, a4, a5, a6, a7, a8, a9⟩ := id hL
    refine wp_al0 (q := 32) dX1_keepRow_31 rfl (wp_dupR (q := 33) dX1_keepRow_32 rfl (wp_getf (q := 36) dX1_keepRow_33 rfl f11 a0 a1 rfl (fun z => nomatch z) (wp_ic (q := 37) dX1_keepRow_36 rfl (by decide) (by decide) (wp_iadd (q := 38) dX1_keepRow_37 rfl (by omega) (by omega) (wp_putf (q := 41) dX1_keepRow_38 rfl f11 a0 a1 (Nat.le_of_ble_eq_true rfl) trivial (fun z => absurd z (by decide)) (wp_vret dX1_keepRow_41 rfl ?_))))))
    first
      | (refine ⟨rfl, ?_⟩; rw [if_pos c7]; rfl)
      | exact ⟨rfl, by rw [if_neg (by omega)]⟩
def v8 (l : List Int) : Prop := ∀ i : Int, 0 ≤ gI l i ∧ gI l i ≤ 8
def RwA (R : List (List Int)) (rs : List Int) : Prop := ∀ i x : Nat, i < R.length → x < 8 → gI rs ((i : Int) * 8 + x) = gI (R.getD i []) x
/-- the list under way: the rows found, the row's beginning -/
def LsU (h : List mC) (k sz : Nat) (lo : List Int) (X : List (List Int)) (pr : List Int) : Prop := ∃ rw rs : List Int, LiAt h k ((X.take 315).length : Nat) rw rs lo ∧ RwA (X.take 315) rs ∧ v8 rw ∧ v8 rs ∧ (∀ x : Nat, x < pr.length → gI rw x = gI pr x) ∧ ∀ x : Nat, sz ≤ x → x < 8 → gI rw x = 8
abbrev okP (ro : List Int) (u : Nat) (pr : List Int) (p : Nat) : Prop := u.testBit p = false ∧ koA (gI pr) (pr.length : Nat) p ∧ kaA ro (gI pr) pr.length p
def fillR (n sz : Nat) (ro : List Int) : Nat → Nat → List Int → List (List Int)
  | 0, _, pr => [pr ++ List.replicate (8 - pr.length) 8]
  | g + 1, u, pr => ((List.range n).flatMap fun p => if okP ro u pr p then fillR n sz ro g (u ||| 2 ^ p) (pr ++ [(p : Int)]) else []) ++ (if (pr.length : Int) - pcN u < sz - n then fillR n sz ro g u (pr ++ [8]) else [])
theorem gI_app {a b : List Int} {x : Nat} : gI (a ++ b) x = if x < a.length then gI a x else gI b ((x - a.length : Nat) : Int) := by
  unfold gI
  simp only [Int.toNat_natCast, List.getD_eq_getElem?_getD]
  split
  · rw [List.getElem?_append_left (by assumption)]
  · rw [List.getElem?_append_right (by omega)]
theorem gI_rep {n x : Nat} {v : Int} : gI (List.replicate n v) x = if x < n then v else 0 := by
  unfold gI
  simp only [Int.toNat_natCast, List.getD_eq_getElem?_getD, List.getElem?_replicate]
  split <;> rfl
theorem mCpy_gI {l0 l1 : List Int} {sp dp n x : Nat} (hx : x < l1.length) : gI (mCpy l0 l1 sp dp n) x = if dp ≤ x ∧ x < dp + n then gI l0 ((sp + (x - dp) : Nat) : Int) else gI l1 x := by
  unfold gI mCpy
  simp only [Int.toNat_natCast]
  rw [List.getD_eq_getElem?_getD, List.getElem?_map, List.getElem?_range hx]
  rfl
theorem v8_set {l : List Int} {x v : Int} (h : v8 l) (h0 : 0 ≤ v) (h8 : v ≤ 8) : v8 (sI l x v) := by
  intro i
  by_cases hx : x.toNat < l.length
  · by_cases e : i.toNat = x.toNat
    · have : gI (sI l x v) i = v := by
        unfold gI sI
        rw [List.getD_eq_getElem?_getD, e, List.getElem?_set_self hx]
        rfl
      omega
    · have : gI (sI l x v) i = gI l i := by
        unfold gI sI
        rw [List.getD_eq_getElem?_getD, List.getElem?_set_ne (by omega), List.getD_eq_getElem?_getD]
      rw [this]
      exact h i
  · have : sI l x v = l := List.set_eq_of_length_le (by omega)
    rw [this]
    exact h i
theorem v8_out {l : List Int} (h : ∀ x : Nat, x < l.length → 0 ≤ gI l x ∧ gI l x ≤ 8) : v8 l := by
  intro i
  by_cases hx : i.toNat < l.length
  · have := h i.toNat hx
    have e : gI l i = gI l (i.toNat : Nat) := by unfold gI; rw [Int.toNat_natCast]
    rw [e]
    exact this
  · have e : gI l i = 0 := by unfold gI; rw [List.getD_eq_getElem?_getD, List.getElem?_eq_none (by omega)]; rfl
    omega
theorem LsU.keep {h : List mC} {k sz : Nat} {lo : List Int} {X : List (List Int)} {pr : List Int} (hs : LsU h k sz lo X pr) (hp : pr.length = sz) (h8 : sz ≤ 8) (d : Nat) : Ct (d + 1) mX1_keepRow [mR k] h (fun r9 h9 => r9 = none ∧ LsU h9 k sz lo (X ++ [pr ++ List.replicate (8 - pr.length) 8]) pr ∧ ∀ j : Nat, (j < k ∨ k + 3 ≤ j) → h9[j]? = h[j]?) := by
  obtain ⟨rw', rs, hL, hR, hv1, hv2, hag, htl⟩ := hs
  refine wp_post (ct_keepRow d hL) ?_
  rintro r9 h9 ⟨rfl, he⟩
  obtain ⟨a0, a1, a2, a3, a4, a5, a6, a7, a8, a9⟩ := id hL
  have hrow : rw' = pr ++ List.replicate (8 - pr.length) 8 := by
    refine gI_ext (by rw [a5, List.length_append, List.length_replicate]; omega) (fun x x0 x1 => ?_)
    obtain ⟨y, rfl⟩ := Int.eq_ofNat_of_zero_le x0
    rw [gI_app]
    split
    · exact hag y (by omega)
    · rw [gI_rep, if_pos (by omega)]
      exact htl y (by omega) (by omega)
  by_cases hlt : X.length < 315
  · have e1 : X.take 315 = X := List.take_of_length_le (by omega)
    have e2 : (X ++ [pr ++ List.replicate (8 - pr.length) 8]).take 315 = X ++ [pr ++ List.replicate (8 - pr.length) 8] := List.take_of_length_le (by rw [List.length_append]; simp; omega)
    rw [e1] at he hL hR a1
    rw [if_pos (by omega)] at he
    have hcl : (mCpy rw' rs (0 : Int).toNat (((X.length : Nat) : Int) * 8).toNat (8 : Int).toNat).length = 2520 := by unfold mCpy; rw [List.length_map, List.length_range]; exact a6
    refine ⟨rfl, ⟨rw', mCpy rw' rs (0 : Int).toNat (((X.length : Nat) : Int) * 8).toNat (8 : Int).toNat, ?_, ?_, hv1, ?_, hag, htl⟩, ?_⟩
    · rw [he, e2]
      have z := (hL.setR hcl).setN (ln' := ((X.length : Nat) : Int) + 1) (by omega) (by omega)
      rw [List.length_append, List.length_singleton, Int.natCast_add]
      exact z
    · rw [e2]
      intro i x hi hx
      have hi2 : i < X.length + 1 := by rw [List.length_append] at hi; simpa using hi
      have ez : ((i : Nat) : Int) * 8 + (x : Nat) = ((i * 8 + x : Nat) : Int) := by omega
      rw [ez, mCpy_gI (by omega)]
      by_cases e : i = X.length
      · rw [if_pos (by omega), e, List.getD_eq_getElem?_getD, List.getElem?_append_right (Nat.le_refl _), Nat.sub_self, ← hrow]
        show gI rw' _ = gI rw' _
        congr 1
        omega
      · rw [if_neg (by omega), List.getD_eq_getElem?_getD, List.getElem?_append_left (by omega), ← List.getD_eq_getElem?_getD, ← ez]
        exact hR i x (by omega) hx
    · refine v8_out (fun x hx => ?_)
      rw [hcl] at hx
      rw [mCpy_gI (by omega)]
      split
      · exact hv1 _
      · exact hv2 _
    · intro j hj
      rw [he, fr_set (by omega), fr_set (by omega)]
  · have e1 : (X ++ [pr ++ List.replicate (8 - pr.length) 8]).take 315 = X.take 315 := by rw [List.take_append_of_le_length (by omega)]
    have e3 : (X.take 315).length = 315 := by rw [List.length_take]; omega
    rw [if_neg (by rw [e3]; decide)] at he
    subst he
    exact ⟨rfl, ⟨rw', rs, by rw [e1]; exact hL, by rw [e1]; exact hR, hv1, hv2, hag, htl⟩, fun _ _ => rfl⟩
theorem koA_congr {f g : Int → Int} {x v : Int} (h0 : 0 ≤ x) (h8 : x < 8) (h : ∀ y : Nat, (y : Int) < x → f y = g y) : koA f x v ↔ koA g x v := by
  by_cases e : x = 0
  · simp [koA, e]
  · have hl := lfA_in (x := x) (by omega) h8
    have hh := h (lfA x).toNat (by omega)
    rw [show (((lfA x).toNat : Nat) : Int) = lfA x by omega] at hh
    simp only [koA, hh]
theorem kaA_congr {ro : List Int} {f g : Int → Int} {x : Nat} {v : Int} (h : ∀ y : Nat, y < x → f y = g y) : kaA ro f x v ↔ kaA ro g x v := by
  constructor <;> intro hh o ho <;> have := hh o ho
  · rw [h o ho] at this; exact this
  · rw [h o ho]; exact this
theorem LsU.put {h : List mC} {k sz : Nat} {lo : List Int} {X : List (List Int)} {pr : List Int} {rw' rs : List Int} {v : Int} (hL : LiAt h k ((X.take 315).length : Nat) rw' rs lo) (hR : RwA (X.take 315) rs) (hv1 : v8 rw') (hv2 : v8 rs) (hag : ∀ x : Nat, x < pr.length → gI rw' x = gI pr x) (htl : ∀ x : Nat, sz ≤ x → x < 8 → gI rw' x = 8) (hp : pr.length < sz) (h8 : sz ≤ 8) (hv0 : 0 ≤ v) (hv : v ≤ 8) : LsU (h.set (k + 1) (mA (sI rw' (pr.length : Nat) v))) k sz lo X (pr ++ [v]) := by
  have a5 := hL.2.2.2.2.2.1
  refine ⟨sI rw' (pr.length : Nat) v, rs, hL.setW (by rw [sI_len]; exact a5), hR, v8_set hv1 hv0 hv, hv2, ?_, ?_⟩
  · intro x hx
    rw [List.length_append, List.length_singleton] at hx
    rw [gI_sI (by omega) (by omega) (by omega), gI_app]
    by_cases e : x = pr.length
    · rw [if_pos (by omega), if_neg (by omega), e, Nat.sub_self]
      rfl
    · rw [if_neg (by omega), if_pos (by omega)]
      exact hag x (by omega)
  · intro x h1 h2
    rw [gI_sI (by omega) (by omega) (by omega), if_neg (by omega)]
    exact htl x h1 h2
theorem len1 {l : List Int} {v : Int} : (((l ++ [v]).length : Nat) : Int) = ((l.length : Nat) : Int) + 1 := by rw [List.length_append, List.length_singleton, Int.natCast_add]; rfl
theorem LsU.cut {h : List mC} {k sz : Nat} {lo : List Int} {X : List (List Int)} {pr : List Int} {v : Int} (hs : LsU h k sz lo X (pr ++ [v])) : LsU h k sz lo X pr := by
  obtain ⟨rw', rs, hL, hR, hv1, hv2, hag, htl⟩ := hs
  refine ⟨rw', rs, hL, hR, hv1, hv2, fun x hx => ?_, htl⟩
  rw [hag x (by rw [List.length_append]; omega), gI_app, if_pos hx]
theorem ct_Lfill (d : Nat) {k q n sz : Nat} {ch ro lo : List Int} (hn : n ≤ 8) (h8 : sz ≤ 8) (hk : 2 ≤ k) (hqk : k + 4 ≤ q ∨ q + 3 ≤ k) : ∀ (g : Nat) (h : List mC) (u : Nat) (pr : List Int) (X : List (List Int)), pr.length + g = sz → u < 256 → RoAt h q n ch ro → LsU h k sz lo X pr → Ct (d + 2 + g) mX1_fill [mR k, mR q, mI sz, mI (pr.length : Nat), mI u] h (fun r9 h9 => r9 = none ∧ LsU h9 k sz lo (X ++ fillR n sz ro g u pr) pr ∧ ∀ j : Nat, (j < k ∨ k + 3 ≤ j) → h9[j]? = h[j]?) := by
  intro g
  induction g with
  | zero =>
    intro h u pr X hg hu hR hs
    obtain ⟨rw', rs, hL, -⟩ := id hs
    obtain ⟨a0, a1, a2, a3, a4, a5, a6, a7, a8, a9⟩ := id hL
    show Wp _ mX1_fill 0 [mR k, mR q, mI sz, mI (pr.length : Nat), mI u, mU, mU] [] h (0, 0) _
    refine wp_il3 (q := 1) dX1_fill_0 rfl (wp_il2 (q := 2) dX1_fill_1 rfl (wp_icmp_ge (t := 11) (q := 5) dX1_fill_2 rfl rfl (fun c2 => ?_) (fun c2 => ?_)))
    · refine wp_al0 (q := 12) dX1_fill_11 rfl (wp_v0 (q := 15) dX1_fill_12 rfl q79 (Nat.le_of_ble_eq_true rfl) rfl a0 a1 rfl rfl (hs.keep (by omega) h8 d) (fun r9 h9 e9 => ?_))
      obtain ⟨rfl, hs2, hf2⟩ := e9
      show Wp _ _ _ _ [] _ _ _
      refine wp_vret dX1_fill_15 rfl ?_
      exact ⟨rfl, hs2, hf2⟩
    · exfalso; omega
  | succ g ih =>
    intro h u pr X hg hu hR hs
    have hpl : pr.length < sz := by omega
    -- behind the players: an empty place
    have tail : ∀ (h1 : List mC) (X1 : List (List Int)) (w1 w2 : mV), LsU h1 k sz lo X1 pr → (∀ j : Nat, (j < k ∨ k + 3 ≤ j) → h1[j]? = h[j]?) → X1 ++ (if (pr.length : Int) - pcN u < sz - n then fillR n sz ro g u (pr ++ [8]) else []) = X ++ fillR n sz ro (g + 1) u pr → Wp (d + 2 + (g + 1)) mX1_fill 101 [mR k, mR q, mI sz, mI (pr.length : Nat), mI u, w1, w2] [] h1 (0, 0) (fun r9 h9 => r9 = none ∧ LsU h9 k sz lo (X ++ fillR n sz ro (g + 1) u pr) pr ∧ ∀ j : Nat, (j < k ∨ k + 3 ≤ j) → h9[j]? = h[j]?) := by
      intro h1 X1 w1 w2 hs1 hf1 he
      have hR : RoAt h1 q n ch ro := hR.fr (fun j _ _ => hf1 j (by omega))
      obtain ⟨r0, r1, r2, r3, r4, r5⟩ := id hR
      obtain ⟨rw, rs, hL, hRw, hv1, hv2, hag, htl⟩ := id hs1
      obtain ⟨a0, a1, a2, a3, a4, a5, a6, a7, a8, a9⟩ := id hL
      have hpc : 0 ≤ pcN u ∧ pcN u ≤ 8 := by have := sumB_in (p := fun i => u.testBit i = true) 8; unfold pcN; omega
      refine wp_il3 (q := 102) dX1_fill_101 rfl (wp_il4 (q := 104) dX1_fill_102 rfl (wp_s1I (q := 107) dX1_fill_104 rfl q84 (Nat.le_of_ble_eq_true rfl) rfl rfl rfl ((ct_bitCount 0 hu).up (by omega)) (wp_isub (q := 108) dX1_fill_107 rfl (by omega) (by omega) (wp_il2 (q := 109) dX1_fill_108 rfl (wp_al1 (q := 110) dX1_fill_109 rfl (wp_getf (q := 113) dX1_fill_110 rfl f2 r0 r1 rfl (fun z => nomatch z) (wp_isub (q := 114) dX1_fill_113 rfl (by omega) (by omega) (wp_icmp_ge (t := 136) (q := 117) dX1_fill_114 rfl rfl (fun c114 => ?_) (fun c114 => ?_)))))))))
      · refine wp_vret dX1_fill_136 rfl ?_
        first
          | (refine ⟨rfl, ?_, fun j hj => by rw [hf2 j hj, fr_set (by omega)]; exact hf1 j hj⟩
             rw [if_pos c114] at he
             rw [← he]
             exact hs2.cut)
          | (refine ⟨rfl, ?_, hf1⟩
             rw [if_neg (by omega), List.append_nil] at he
             rw [← he]
             exact hs1)
      · refine wp_al0 (q := 118) dX1_fill_117 rfl (wp_getf (q := 121) dX1_fill_118 rfl f13 a0 a1 rfl (fun z => nomatch z) (wp_il3 (q := 122) dX1_fill_121 rfl (wp_bi (q := 124) dX1_fill_122 rfl (by decide) (by decide) (wp_iastore (q := 125) dX1_fill_124 rfl (by omega) a2 (by omega) (by omega) (wp_al0 (q := 126) dX1_fill_125 rfl (wp_al1 (q := 127) dX1_fill_126 rfl (wp_il2 (q := 128) dX1_fill_127 rfl (wp_il3 (q := 129) dX1_fill_128 rfl (wp_ic (q := 130) dX1_fill_129 rfl (by decide) (by decide) (wp_iadd (q := 131) dX1_fill_130 rfl (by omega) (by omega) (wp_il4 (q := 133) dX1_fill_131 rfl (wp_s5 (q := 136) dX1_fill_133 rfl q78 (Nat.le_of_ble_eq_true rfl) rfl rfl rfl (by have z := ih (h1.set (k + 1) (mA (sI rw (pr.length : Nat) 8))) u (pr ++ [8]) X1 (by rw [List.length_append, List.length_singleton]; omega) (by omega) (hR.fr (fun j _ _ => fr_set (by omega))) (LsU.put hL hRw hv1 hv2 hag htl hpl h8 (by omega) (by omega)); rw [len1] at z; exact z) (fun r9 h9 e9 => ?_)))))))))))))
        obtain ⟨rfl, hs2, hf2⟩ := e9
        show Wp _ _ _ _ [] _ _ _
        refine wp_vret dX1_fill_136 rfl ?_
        first
          | (refine ⟨rfl, ?_, fun j hj => by rw [hf2 j hj, fr_set (by omega)]; exact hf1 j hj⟩
             rw [if_pos c114] at he
             rw [← he]
             exact hs2.cut)
          | (refine ⟨rfl, ?_, hf1⟩
             rw [if_neg (by omega), List.append_nil] at he
             rw [← he]
             exact hs1)
    have key : ∀ (j : Nat), j ≤ n → ∀ (h1 : List mC) (X1 : List (List Int)) (x : Int) (w : mV), x = j → LsU h1 k sz lo X1 pr → (∀ j : Nat, (j < k ∨ k + 3 ≤ j) → h1[j]? = h[j]?) → X1 = X ++ ((List.range j).flatMap fun p => if okP ro u pr p then fillR n sz ro g (u ||| 2 ^ p) (pr ++ [(p : Int)]) else []) → Wp (d + 2 + (g + 1)) mX1_fill 19 [mR k, mR q, mI sz, mI (pr.length : Nat), mI u, mI x, w] [] h1 (0, 0) (fun r9 h9 => r9 = none ∧ LsU h9 k sz lo (X ++ fillR n sz ro (g + 1) u pr) pr ∧ ∀ j : Nat, (j < k ∨ k + 3 ≤ j) → h9[j]? = h[j]?) := by
      refine loop_up n _ ?_ ?_
      · intro h1 X1 x w hx hs1 hf1 he
        have hR : RoAt h1 q n ch ro := hR.fr (fun j _ _ => hf1 j (by omega))
        obtain ⟨r0, r1, r2, r3, r4, r5⟩ := id hR
        refine wp_il5 (q := 21) dX1_fill_19 rfl (wp_al1 (q := 22) dX1_fill_21 rfl (wp_getf (q := 25) dX1_fill_22 rfl f2 r0 r1 rfl (fun z => nomatch z) (wp_icmp_ge (t := 101) (q := 28) dX1_fill_25 rfl rfl (fun c25 => ?_) (fun c25 => ?_))))
        · refine tail h1 X1 _ _ hs1 hf1 ?_
          rw [he, List.append_assoc]
          rfl
        · exfalso; omega
      · intro j hj ih2 h1 X1 x w hx hs1 hf1 he
        have hR : RoAt h1 q n ch ro := hR.fr (fun j _ _ => hf1 j (by omega))
        obtain ⟨r0, r1, r2, r3, r4, r5⟩ := id hR
        obtain ⟨rw, rs, hL, hRw, hv1, hv2, hag, htl⟩ := id hs1
        obtain ⟨a0, a1, a2, a3, a4, a5, a6, a7, a8, a9⟩ := id hL
        obtain ⟨bt1, bt2, bt3⟩ := bits_all u hu j (by omega)
        rw [← hx] at bt1 bt2
        have eko : koA (gI rw) (pr.length : Nat) x ↔ koA (gI pr) (pr.length : Nat) x := koA_congr (by omega) (by omega) (fun y hy => hag y (by omega))
        have eka : kaA ro (gI rw) pr.length x ↔ kaA ro (gI pr) pr.length x := kaA_congr (fun y hy => hag y hy)
        have e1 : ((List.range (j + 1)).flatMap fun p => if okP ro u pr p then fillR n sz ro g (u ||| 2 ^ p) (pr ++ [(p : Int)]) else []) = ((List.range j).flatMap fun p => if okP ro u pr p then fillR n sz ro g (u ||| 2 ^ p) (pr ++ [(p : Int)]) else []) ++ (if okP ro u pr j then fillR n sz ro g (u ||| 2 ^ j) (pr ++ [(j : Int)]) else []) := by
          rw [List.range_succ, List.flatMap_append]
          simp
        have hno : ¬ okP ro u pr j → X1 = X ++ ((List.range (j + 1)).flatMap fun p => if okP ro u pr p then fillR n sz ro g (u ||| 2 ^ p) (pr ++ [(p : Int)]) else []) := by
          intro hn2
          rw [e1, if_neg hn2, List.append_nil]
          exact he
        refine wp_il5 (q := 21) dX1_fill_19 rfl (wp_al1 (q := 22) dX1_fill_21 rfl (wp_getf (q := 25) dX1_fill_22 rfl f2 r0 r1 rfl (fun z => nomatch z) (wp_icmp_ge (t := 101) (q := 28) dX1_fill_25 rfl rfl (fun c25 => ?_) (fun c25 => ?_))))
        · exfalso; omega
        · refine wp_il4 (q := 30) dX1_fill_28 rfl (wp_il5 (q := 32) dX1_fill_30 rfl (wp_ishr _ (q := 33) dX1_fill_32 rfl rfl (wp_ic (q := 34) dX1_fill_33 rfl (by decide) (by decide) (wp_iand (bI (u.testBit j = true)) (q := 35) dX1_fill_34 rfl bt1 ?_))))
          refine wp_ifb_ne (t := 42) (q := 38) dX1_fill_35 rfl rfl (fun c35 => ?_) (fun c35 => ?_)
          · refine wp_ic (q := 43) dX1_fill_42 rfl (by decide) (by decide) (wp_is6 (q := 45) dX1_fill_43 rfl rfl ?_)
            refine wp_il6 (q := 47) dX1_fill_45 rfl (wp_if_eq (t := 95) (q := 50) dX1_fill_47 rfl rfl (fun c47 => ?_) (fun c47 => ?_))
            · refine wp_ii5 (q := 98) dX1_fill_95 rfl rfl (by omega) (by omega) (wp_goto (q := 19) dX1_fill_98 rfl ?_)
              exact ih2 h1 X1 (x + 1) _ (by omega) hs1 hf1 (hno (fun z => absurd z.1 (by rw [c35]; decide)))
            · exfalso; omega
          · refine wp_ic (q := 39) dX1_fill_38 rfl (by decide) (by decide) (wp_goto (q := 43) dX1_fill_39 rfl (wp_is6 (q := 45) dX1_fill_43 rfl rfl ?_))
            refine wp_il6 (q := 47) dX1_fill_45 rfl (wp_if_eq (t := 95) (q := 50) dX1_fill_47 rfl rfl (fun c47 => ?_) (fun c47 => ?_))
            · exfalso; omega
            · refine wp_al0 (q := 51) dX1_fill_50 rfl (wp_il3 (q := 52) dX1_fill_51 rfl (wp_il5 (q := 54) dX1_fill_52 rfl (wp_v2I (q := 57) dX1_fill_54 rfl q80 (Nat.le_of_ble_eq_true rfl) rfl a0 a1 rfl rfl ((ct_keepsOrder 0 hL (by omega) (by omega)).up (by omega)) (wp_ifb_eq (t := 95) (q := 60) dX1_fill_57 rfl rfl (fun c57 => ?_) (fun c57 => ?_)))))
              · refine wp_ii5 (q := 98) dX1_fill_95 rfl rfl (by omega) (by omega) (wp_goto (q := 19) dX1_fill_98 rfl ?_)
                exact ih2 h1 X1 (x + 1) _ (by omega) hs1 hf1 (hno (fun z => c57 (eko.mpr (by rw [hx]; exact z.2.1))))
              · refine wp_al0 (q := 61) dX1_fill_60 rfl (wp_al1 (q := 62) dX1_fill_61 rfl (wp_il3 (q := 63) dX1_fill_62 rfl (wp_il5 (q := 65) dX1_fill_63 rfl (wp_v3I (q := 68) dX1_fill_65 rfl q81 (Nat.le_of_ble_eq_true rfl) rfl a0 a1 rfl rfl ((ct_keepsApart 0 hL hR (x := pr.length) (v := x) (by omega) (by omega) (by omega) (fun o _ => hv1 _)).up (D := d + 2 + g) (by omega)) (wp_ifb_eq (t := 95) (q := 71) dX1_fill_68 rfl rfl (fun c68 => ?_) (fun c68 => ?_))))))
                · refine wp_ii5 (q := 98) dX1_fill_95 rfl rfl (by omega) (by omega) (wp_goto (q := 19) dX1_fill_98 rfl ?_)
                  exact ih2 h1 X1 (x + 1) _ (by omega) hs1 hf1 (hno (fun z => c68 (eka.mpr (by rw [hx]; exact z.2.2))))
                · refine wp_al0 (q := 72) dX1_fill_71 rfl (wp_getf (q := 75) dX1_fill_72 rfl f13 a0 a1 rfl (fun z => nomatch z) (wp_il3 (q := 76) dX1_fill_75 rfl (wp_il5 (q := 78) dX1_fill_76 rfl (wp_iastore (q := 79) dX1_fill_78 rfl (by omega) a2 (by omega) (by omega) (wp_al0 (q := 80) dX1_fill_79 rfl (wp_al1 (q := 81) dX1_fill_80 rfl (wp_il2 (q := 82) dX1_fill_81 rfl (wp_il3 (q := 83) dX1_fill_82 rfl (wp_ic (q := 84) dX1_fill_83 rfl (by decide) (by decide) (wp_iadd (q := 85) dX1_fill_84 rfl (by omega) (by omega) (wp_il4 (q := 87) dX1_fill_85 rfl (wp_ic (q := 88) dX1_fill_87 rfl (by decide) (by decide) (wp_il5 (q := 90) dX1_fill_88 rfl ?_)))))))))))))
                  refine wp_ishl _ (q := 91) dX1_fill_90 rfl rfl (wp_ior (((u ||| 2 ^ j : Nat) : Int)) (q := 92) dX1_fill_91 rfl bt2 (wp_s5 (q := 95) dX1_fill_92 rfl q78 (Nat.le_of_ble_eq_true rfl) rfl rfl rfl (by have z := ih (h1.set (k + 1) (mA (sI rw (pr.length : Nat) x))) (u ||| 2 ^ j) (pr ++ [x]) X1 (by rw [List.length_append, List.length_singleton]; omega) (by omega) (hR.fr (fun j _ _ => fr_set (by omega))) (LsU.put hL hRw hv1 hv2 hag htl hpl h8 (by omega) (by omega)); rw [len1] at z; exact z) (fun r9 h9 e9 => ?_)))
                  obtain ⟨rfl, hs2, hf2⟩ := e9
                  show Wp _ _ _ _ [] _ _ _
                  refine wp_ii5 (q := 98) dX1_fill_95 rfl rfl (by omega) (by omega) (wp_goto (q := 19) dX1_fill_98 rfl ?_)
                  refine ih2 _ _ (x + 1) _ (by omega) hs2.cut (fun j hj => by rw [hf2 j hj, fr_set (by omega)]; exact hf1 j hj) ?_
                  have hok : okP ro u pr j := ⟨by simpa using c35, by rw [← hx]; exact eko.mp c57, by rw [← hx]; exact eka.mp c68⟩
                  rw [e1, if_pos hok, ← List.append_assoc, ← he, hx]
    show Wp _ mX1_fill 0 [mR k, mR q, mI sz, mI (pr.length : Nat), mI u, mU, mU] [] h (0, 0) _
    refine wp_il3 (q := 1) dX1_fill_0 rfl (wp_il2 (q := 2) dX1_fill_1 rfl (wp_icmp_ge (t := 11) (q := 5) dX1_fill_2 rfl rfl (fun c2 => ?_) (fun c2 => ?_)))
    · exfalso; omega
    · refine wp_il3 (q := 6) dX1_fill_5 rfl (wp_bi (q := 8) dX1_fill_6 rfl (by decide) (by decide) (wp_icmp_lt (t := 16) (q := 11) dX1_fill_8 rfl rfl (fun c8 => ?_) (fun c8 => ?_)))
      · refine wp_ic (q := 17) dX1_fill_16 rfl (by decide) (by decide) (wp_is5 (q := 19) dX1_fill_17 rfl rfl ?_)
        exact key 0 (Nat.zero_le _) h X 0 mU rfl hs (fun _ _ => rfl) (by simp)
      · exfalso; omega
theorem ct_make (d : Nat) {h : List mC} {k : Nat} {ln : Int} {rw rs lo : List Int} (hL : LiAt h k ln rw rs lo) {q n sz : Nat} {ch ro : List Int} (hR : RoAt h q n ch ro) (hn : n ≤ 8) (h8 : sz ≤ 8) (hqk : k + 4 ≤ q ∨ q + 3 ≤ k) (hvs : v8 rs) : Ct (d + 11) mX1_make [mR k, mR q, mI sz] h (fun r9 h9 => r9 = none ∧ LsU h9 k sz lo (if n ≤ sz then fillR n sz ro sz 0 [] else []) [] ∧ ∀ j : Nat, (j < k ∨ k + 3 ≤ j) → h9[j]? = h[j]?) := by
  obtain ⟨a0, a1, a2, a3, a4, a5, a6, a7, a8, a9⟩ := id hL
  obtain ⟨r0, r1, r2, r3, r4, r5⟩ := id hR
  show Wp _ mX1_make 0 [mR k, mR q, mI sz] [] h (0, 0) _
  refine wp_al0 (q := 1) dX1_make_0 rfl (wp_ic (q := 2) dX1_make_1 rfl (by decide) (by decide) (wp_putf (q := 5) dX1_make_2 rfl f11 a0 a1 (Nat.le_of_ble_eq_true rfl) trivial (fun z => absurd z (by decide)) ?_))
  have hL0 := hL.setN (ln' := 0) (by omega) (by omega)
  obtain ⟨a0, a1, a2, a3, a4, a5, a6, a7, a8, a9⟩ := id hL0
  refine wp_al0 (q := 6) dX1_make_5 rfl (wp_getf (q := 9) dX1_make_6 rfl f13 a0 a1 rfl (fun z => nomatch z) (wp_bi (q := 11) dX1_make_9 rfl (by decide) (by decide) (wp_s2V (q := 14) dX1_make_11 rfl q77 (Nat.le_of_ble_eq_true rfl) rfl rfl rfl ((by have z := ct_fill 0 (v := 8) (a := k + 1) (by omega) a2 (by omega); rw [a5] at z; exact z : Rt 0 _ _ _ _ _).up (by omega)) ?_)))
  have hL := (hL.setN (ln' := 0) (by omega) (by omega)).setW (rw' := List.replicate 8 8) (by rw [List.length_replicate])
  obtain ⟨a0, a1, a2, a3, a4, a5, a6, a7, a8, a9⟩ := id hL
  have hs : LsU ((h.set k (mO 1 [mI 0, mR (k + 1), mR (k + 2), mR (k + 3)])).set (k + 1) (mA (List.replicate 8 8))) k sz lo [] [] := ⟨List.replicate 8 8, rs, hL, fun i x hi => absurd hi (Nat.not_lt_zero i), v8_out (fun x hx => by rw [List.length_replicate] at hx; rw [gI_rep, if_pos hx]; omega), hvs, fun x hx => absurd hx (Nat.not_lt_zero x), fun x h1 h2 => by rw [gI_rep, if_pos h2]⟩
  have hf : ∀ j : Nat, (j < k ∨ k + 3 ≤ j) → ((h.set k (mO 1 [mI 0, mR (k + 1), mR (k + 2), mR (k + 3)])).set (k + 1) (mA (List.replicate 8 8)))[j]? = h[j]? := fun j hj => by rw [fr_set (by omega), fr_set (by omega)]
  have hR : RoAt ((h.set k (mO 1 [mI 0, mR (k + 1), mR (k + 2), mR (k + 3)])).set (k + 1) (mA (List.replicate 8 8))) q n ch ro := hR.fr (fun j _ _ => hf j (by omega))
  obtain ⟨r0, r1, r2, r3, r4, r5⟩ := id hR
  refine wp_al1 (q := 15) dX1_make_14 rfl (wp_getf (q := 18) dX1_make_15 rfl f2 r0 r1 rfl (fun z => nomatch z) (wp_il2 (q := 19) dX1_make_18 rfl (wp_icmp_gt (t := 36) (q := 22) dX1_make_19 rfl rfl (fun c19 => ?_) (fun c19 => ?_))))
  · refine wp_vret dX1_make_36 rfl ?_
    first
      | (refine ⟨rfl, ?_, fun j hj => by rw [hf2 j hj]; exact hf j hj⟩
         rw [if_pos (by omega)]
         exact hs2)
      | (refine ⟨rfl, ?_, hf⟩
         rw [if_neg (by omega)]
         exact hs)
  · refine wp_il2 (q := 23) dX1_make_22 rfl (wp_bi (q := 25) dX1_make_23 rfl (by decide) (by decide) (wp_icmp_gt (t := 36) (q := 28) dX1_make_25 rfl rfl (fun c25 => ?_) (fun c25 => ?_)))
    · exfalso; omega
    · refine wp_al0 (q := 29) dX1_make_28 rfl (wp_al1 (q := 30) dX1_make_29 rfl (wp_il2 (q := 31) dX1_make_30 rfl (wp_ic (q := 32) dX1_make_31 rfl (by decide) (by decide) (wp_ic (q := 33) dX1_make_32 rfl (by decide) (by decide) (wp_s5 (q := 36) dX1_make_33 rfl q78 (Nat.le_of_ble_eq_true rfl) rfl rfl rfl ((ct_Lfill 0 hn h8 a0 hqk sz _ 0 [] [] (by simp) (by decide) hR hs).up (by omega)) (fun r9 h9 e9 => ?_))))))
      obtain ⟨rfl, hs2, hf2⟩ := e9
      show Wp _ _ _ _ [] _ _ _
      refine wp_vret dX1_make_36 rfl ?_
      first
        | (refine ⟨rfl, ?_, fun j hj => by rw [hf2 j hj]; exact hf j hj⟩
           rw [if_pos (by omega)]
           exact hs2)
        | (refine ⟨rfl, ?_, hf⟩
           rw [if_neg (by omega)]
           exact hs)
