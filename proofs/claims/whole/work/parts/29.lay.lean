/-! the list of draws: laid into a cup, weighed (rows laid by wip/whole) -/
/-- places below sz by a row, the others 8 -/
def lay8 (f : Int → Int) (sz : Int) : List Int := (List.range 8).map (fun (y : Nat) => if (y : Int) < sz then f y else 8)
theorem lay8_len (f : Int → Int) (sz : Int) : (lay8 f sz).length = 8 := map8_len
theorem lay8_in {f : Int → Int} {sz : Int} (hf : ∀ x, 0 ≤ f x ∧ f x ≤ 8) (i : Int) : 0 ≤ gI (lay8 f sz) i ∧ gI (lay8 f sz) i ≤ 8 := by
  by_cases h : i.toNat < 8
  · have e : gI (lay8 f sz) i = if ((i.toNat : Nat) : Int) < sz then f i.toNat else 8 := by
      unfold gI lay8
      rw [List.getD_eq_getElem?_getD, List.getElem?_map, List.getElem?_range h]
      rfl
    rw [e]
    split
    · exact hf _
    · omega
  · have e : gI (lay8 f sz) i = 0 := by
      unfold gI
      rw [List.getD_eq_getElem?_getD, List.getElem?_eq_none (by rw [lay8_len]; omega)]
      rfl
    omega
theorem lay8_rd {f : Int → Int} {sz x : Int} (h0 : 0 ≤ x) (h1 : x < sz) (h8 : sz ≤ 8) : rd8 (lay8 f sz) x = f x := by
  unfold rd8
  rw [if_pos (by omega)]
  unfold lay8
  rw [gI_map8 h0 (by omega), if_pos (by omega), show ((x.toNat : Nat) : Int) = x by omega]
theorem ct_layInto (d : Nat) {h : List mC} {k : Nat} {ln : Int} {rw rs lo : List Int} (hL : LiAt h k ln rw rs lo) {c : Nat} {sz : Int} {pl wi od : List Int} (hB : BrAt h c sz pl wi od) (hkc : k + 4 ≤ c ∨ c + 4 ≤ k) (hpt : ∀ y : Int, sz ≤ y → y < 8 → gI pl y = 8) {i : Int} (hi0 : -100000 ≤ i) (hi : i ≤ 100000) : Rt (d + 2) mX1_layInto [mR k, mR c, mI i] h none ((h.set (c + 1) (mA (lay8 (lpA ln rs i) sz))).set (c + 2) (mA (List.replicate 8 8))) := by
  obtain ⟨a0, a1, a2, a3, a4, a5, a6, a7, a8, a9⟩ := id hL
  obtain ⟨b0, b1, b2, b3, b4, b5, b6, b7, b8⟩ := id hB
  have key : ∀ (j : Nat), j ≤ sz.toNat → ∀ (l1 : List Int) (x : Int), x = j → l1.length = 8 → (∀ y : Int, 0 ≤ y → y < 8 → gI l1 y = if y < j then lpA ln rs i y else gI pl y) → Wp (d + 2) mX1_layInto 2 [mR k, mR c, mI i, mI x] [] (h.set (c + 1) (mA l1)) (0, 0) (fun r' h' => r' = none ∧ h' = (h.set (c + 1) (mA (lay8 (lpA ln rs i) sz))).set (c + 2) (mA (List.replicate 8 8))) := by
    refine loop_up sz.toNat _ ?_ ?_
    · intro l1 x hx hl1 hv
      have hL : LiAt (h.set (c + 1) (mA l1)) k ln rw rs lo := hL.fr (fun j _ _ => fr_set (by omega))
      have hB := hB.setP (pl' := l1) hl1
      obtain ⟨a0, a1, a2, a3, a4, a5, a6, a7, a8, a9⟩ := id hL
      obtain ⟨b0, b1, b2, b3, b4, b5, b6, b7, b8⟩ := id hB
      refine wp_il3 (q := 3) dX1_layInto_2 rfl (wp_al1 (q := 4) dX1_layInto_3 rfl (wp_getf (q := 7) dX1_layInto_4 rfl f7 b0 b1 rfl (fun z => nomatch z) (wp_icmp_ge (t := 27) (q := 10) dX1_layInto_7 rfl rfl (fun c7 => ?_) (fun c7 => ?_))))
      · refine wp_al1 (q := 28) dX1_layInto_27 rfl (wp_v0V (q := 31) dX1_layInto_28 rfl q93 (Nat.le_of_ble_eq_true rfl) rfl b0 b1 rfl rfl (ct_openAll d hB) (wp_vret dX1_layInto_31 rfl ?_))
        refine ⟨rfl, ?_⟩
        have e : l1 = lay8 (lpA ln rs i) sz := gI_ext (by rw [lay8_len]; exact hl1) (fun y y0 y1 => by
          rw [hv y y0 (by omega)]
          unfold lay8
          rw [gI_map8 y0 (by omega), show ((y.toNat : Nat) : Int) = y by omega, show ((sz.toNat : Nat) : Int) = sz by omega]
          split
          · rfl
          · exact hpt y (by omega) (by omega))
        rw [e]
      · exfalso; omega
    · intro j hj ih l1 x hx hl1 hv
      have hL : LiAt (h.set (c + 1) (mA l1)) k ln rw rs lo := hL.fr (fun j _ _ => fr_set (by omega))
      have hB := hB.setP (pl' := l1) hl1
      obtain ⟨a0, a1, a2, a3, a4, a5, a6, a7, a8, a9⟩ := id hL
      obtain ⟨b0, b1, b2, b3, b4, b5, b6, b7, b8⟩ := id hB
      refine wp_il3 (q := 3) dX1_layInto_2 rfl (wp_al1 (q := 4) dX1_layInto_3 rfl (wp_getf (q := 7) dX1_layInto_4 rfl f7 b0 b1 rfl (fun z => nomatch z) (wp_icmp_ge (t := 27) (q := 10) dX1_layInto_7 rfl rfl (fun c7 => ?_) (fun c7 => ?_))))
      · exfalso; omega
      · refine wp_al1 (q := 11) dX1_layInto_10 rfl (wp_il3 (q := 12) dX1_layInto_11 rfl (wp_al0 (q := 13) dX1_layInto_12 rfl (wp_il2 (q := 14) dX1_layInto_13 rfl (wp_il3 (q := 15) dX1_layInto_14 rfl (wp_v2I (q := 18) dX1_layInto_15 rfl q91 (Nat.le_of_ble_eq_true rfl) rfl a0 a1 rfl rfl (ct_LplayerAt d hL hi0 hi (by omega) (by omega)) (wp_v2V (q := 21) dX1_layInto_18 rfl q92 (Nat.le_of_ble_eq_true rfl) rfl b0 b1 rfl rfl (ct_setPlace (d + 1) hB (by omega) (by omega)) (wp_ii3 (q := 24) dX1_layInto_21 rfl rfl (by omega) (by omega) (wp_goto (q := 2) dX1_layInto_24 rfl ?_))))))))
        rw [gs_ss]
        refine ih _ _ (by omega) (by rw [sI_len]; exact hl1) ?_
        intro y y0 y1
        rw [gI_sI (by omega) (by omega) y0, hv y y0 y1]
        (repeat' split) <;> first | rfl | (exfalso; omega) | exact congrArg (lpA ln rs i) (by omega)
  show Wp _ mX1_layInto 0 [mR k, mR c, mI i, mU] [] h (0, 0) _
  refine wp_ic (q := 1) dX1_layInto_0 rfl (by decide) (by decide) (wp_is3 (q := 2) dX1_layInto_1 rfl rfl ?_)
  have z := key 0 (Nat.zero_le _) pl 0 rfl b5 (fun y y0 y1 => by rw [if_neg (by omega)])
  rw [gs_id b2] at z
  exact z
/-- what DrawList.weigh leaves: the trial cup with whatever in it, the odds of each draw -/
def lwQ (h : List mC) (k c : Nat) (ln sz : Int) (rw rs ch : List Int) (r9 : Option mV) (h9 : List mC) : Prop := r9 = none ∧ ∃ pl' wi' od' lo' : List Int, BrAt h9 c sz pl' wi' od' ∧ (∀ y : Int, sz ≤ y → y < 8 → gI pl' y = 8) ∧ LiAt h9 k ln rw rs lo' ∧ (∀ j : Nat, (j < k ∨ k + 4 ≤ j) → (j < c ∨ c + 4 ≤ j) → h9[j]? = h[j]?) ∧
  ∀ i x : Int, 0 ≤ i → i < ln → 0 ≤ x → x < sz → lpA ln rs i x ≠ 8 → loA ln lo' i (lpA ln rs i x) = odR (lay8 (lpA ln rs i) sz) (List.replicate 8 8) ch sz (lrA sz).toNat x
theorem loA_ls {ln : Int} {lo : List Int} {i x v i' x' : Int} (hl : lo.length = 2520) (hln : ln ≤ 315) (hi0 : 0 ≤ i) (hi : i < ln) (hx0 : 0 ≤ x) (hi0' : 0 ≤ i') (hi' : i' < ln) (hx0' : 0 ≤ x') (hx' : x' < 8) : loA ln (lsA ln lo i x v) i' x' = if i' = i ∧ x' = x then v else loA ln lo i' x' := by
  unfold loA lsA
  have c1 : 0 ≤ i' ∧ i' < ln ∧ 0 ≤ x' ∧ x' < 8 := ⟨hi0', hi', hx0', hx'⟩
  rw [if_pos c1, if_pos c1]
  by_cases c : x < 8
  · have c2 : 0 ≤ i ∧ i < ln ∧ 0 ≤ x ∧ x < 8 := ⟨hi0, hi, hx0, c⟩
    rw [if_pos c2, gI_sI (by omega) (by omega) (by omega)]
    by_cases e : i' = i ∧ x' = x
    · rw [if_pos e, if_pos (by omega)]
    · rw [if_neg e, if_neg (by omega)]
  · have c2 : ¬ (0 ≤ i ∧ i < ln ∧ 0 ≤ x ∧ x < 8) := by omega
    have c3 : ¬ (i' = i ∧ x' = x) := by omega
    rw [if_neg c2, if_neg c3]
theorem lsA_len {ln : Int} {lo : List Int} {i x v : Int} : (lsA ln lo i x v).length = lo.length := by
  unfold lsA
  split
  · exact sI_len _ _ _
  · rfl
theorem rep8 (i : Int) : 0 ≤ gI (List.replicate 8 8) i ∧ gI (List.replicate 8 8) i ≤ 8 := by
  unfold gI
  rw [List.getD_eq_getElem?_getD, List.getElem?_replicate]
  split <;> simp
theorem ct_Lweigh (d : Nat) {h : List mC} {k : Nat} {ln : Int} {rw rs lo : List Int} (hL : LiAt h k ln rw rs lo) {c : Nat} {sz : Int} {pl wi od : List Int} (hB : BrAt h c sz pl wi od) (hkc : k + 4 ≤ c ∨ c + 4 ≤ k) (hpt : ∀ y : Int, sz ≤ y → y < 8 → gI pl y = 8) {q : Nat} {n : Int} {ch ro : List Int} (hR : RoAt h q n ch ro) (hp : h[0]? = some (mJ mPT)) (hch : chB ch) (hqc : c + 4 ≤ q ∨ q + 3 ≤ c) (hqk : k + 4 ≤ q ∨ q + 3 ≤ k) (hrs : ∀ i : Int, 0 ≤ gI rs i ∧ gI rs i ≤ 8) (hds : ∀ i x y : Int, 0 ≤ i → i < ln → 0 ≤ x → x < sz → 0 ≤ y → y < sz → lpA ln rs i x = lpA ln rs i y → lpA ln rs i x ≠ 8 → x = y) : Ct (d + 5) mX1_weigh [mR k, mR c, mR q] h (lwQ h k c ln sz rw rs ch) := by
  obtain ⟨a0, a1, a2, a3, a4, a5, a6, a7, a8, a9⟩ := id hL
  obtain ⟨b0, b1, b2, b3, b4, b5, b6, b7, b8⟩ := id hB
  obtain ⟨r0, r1, r2, r3, r4, r5⟩ := id hR
  obtain ⟨l1, l3⟩ := lrA_in b8
  have hlp : ∀ i x, 0 ≤ lpA ln rs i x ∧ lpA ln rs i x ≤ 8 := by
    intro i x
    unfold lpA
    split
    · exact hrs _
    · omega
  have key : ∀ (j : Nat), j ≤ ln.toNat → ∀ (h1 : List mC) (pl wi od lo : List Int) (x : Int) (u : mV), x = j → BrAt h1 c sz pl wi od → (∀ y : Int, sz ≤ y → y < 8 → gI pl y = 8) → LiAt h1 k ln rw rs lo → (∀ j : Nat, (j < k ∨ k + 4 ≤ j) → (j < c ∨ c + 4 ≤ j) → h1[j]? = h[j]?) → (∀ i x : Int, 0 ≤ i → i < j → 0 ≤ x → x < sz → lpA ln rs i x ≠ 8 → loA ln lo i (lpA ln rs i x) = odR (lay8 (lpA ln rs i) sz) (List.replicate 8 8) ch sz (lrA sz).toNat x) → Wp (d + 5) mX1_weigh 8 [mR k, mR c, mR q, mI (lrA sz), mI x, u] [] h1 (0, 0) (lwQ h k c ln sz rw rs ch) := by
    refine loop_up ln.toNat _ ?_ ?_
    · intro h1 pl wi od lo x u hx hB hpt hL hf hv
      obtain ⟨a0, a1, a2, a3, a4, a5, a6, a7, a8, a9⟩ := id hL
      refine wp_il4 (q := 10) dX1_weigh_8 rfl (wp_al0 (q := 11) dX1_weigh_10 rfl (wp_getf (q := 14) dX1_weigh_11 rfl f11 a0 a1 rfl (fun z => nomatch z) (wp_icmp_ge (t := 72) (q := 17) dX1_weigh_14 rfl rfl (fun c14 => ?_) (fun c14 => ?_))))
      · refine wp_vret dX1_weigh_72 rfl ?_
        exact ⟨rfl, pl, wi, od, lo, hB, hpt, hL, hf, fun i x i0 i1 x0 x1 h8 => hv i x i0 (by omega) x0 x1 h8⟩
      · exfalso; omega
    · intro j hj ih h1 pl wi od lo x u hx hB hpt hL hf hv
      have hR : RoAt h1 q n ch ro := hR.fr (fun j _ _ => hf j (by omega) (by omega))
      have hp : h1[0]? = some (mJ mPT) := by rw [hf 0 (by omega) (by omega)]; exact hp
      obtain ⟨a0, a1, a2, a3, a4, a5, a6, a7, a8, a9⟩ := id hL
      obtain ⟨b0, b1, b2, b3, b4, b5, b6, b7, b8⟩ := id hB
      obtain ⟨r0, r1, r2, r3, r4, r5⟩ := id hR
      have hlw := lay8_len (lpA ln rs x) sz
      have hli := lay8_in (f := lpA ln rs x) (sz := sz) (hlp x)
      -- the inner loop, once the cup is weighed
      have inner : ∀ (o2 : List Int), o2.length = 32 → (∀ r : Nat, (r : Int) ≤ lrA sz → ∀ y : Int, 0 ≤ y → y < sz → odA o2 r y = odR (lay8 (lpA ln rs x) sz) (List.replicate 8 8) ch sz r y) → ∀ (i : Nat), i ≤ sz.toNat → ∀ (h2 : List mC) (lo2 : List Int) (y : Int), y = i → BrAt h2 c sz (lay8 (lpA ln rs x) sz) (List.replicate 8 8) o2 → LiAt h2 k ln rw rs lo2 → (∀ j : Nat, (j < k ∨ k + 4 ≤ j) → (j < c ∨ c + 4 ≤ j) → h2[j]? = h[j]?) → (∀ i x : Int, 0 ≤ i → i < j → 0 ≤ x → x < sz → lpA ln rs i x ≠ 8 → loA ln lo2 i (lpA ln rs i x) = odR (lay8 (lpA ln rs i) sz) (List.replicate 8 8) ch sz (lrA sz).toNat x) → (∀ z : Int, 0 ≤ z → z < y → lpA ln rs x z ≠ 8 → loA ln lo2 x (lpA ln rs x z) = odR (lay8 (lpA ln rs x) sz) (List.replicate 8 8) ch sz (lrA sz).toNat z) → Wp (d + 5) mX1_weigh 32 [mR k, mR c, mR q, mI (lrA sz), mI x, mI y] [] h2 (0, 0) (lwQ h k c ln sz rw rs ch) := by
        intro o2 ho2 hrow
        refine loop_up sz.toNat _ ?_ ?_
        · intro h2 lo2 y hy hB hL hf hv hvx
          obtain ⟨a0, a1, a2, a3, a4, a5, a6, a7, a8, a9⟩ := id hL
          obtain ⟨b0, b1, b2, b3, b4, b5, b6, b7, b8⟩ := id hB
          refine wp_il5 (q := 34) dX1_weigh_32 rfl (wp_al1 (q := 35) dX1_weigh_34 rfl (wp_getf (q := 38) dX1_weigh_35 rfl f7 b0 b1 rfl (fun z => nomatch z) (wp_icmp_ge (t := 66) (q := 41) dX1_weigh_38 rfl rfl (fun c38 => ?_) (fun c38 => ?_))))
          · refine wp_ii4 (q := 69) dX1_weigh_66 rfl rfl (by omega) (by omega) (wp_goto (q := 8) dX1_weigh_69 rfl ?_)
            refine ih h2 _ _ _ lo2 (x + 1) _ (by omega) hB ?_ hL hf ?_
            · intro z z0 z1
              unfold lay8
              rw [gI_map8 (by omega) z1, if_neg (by omega)]
            · intro i' x' i0 i1 x0 x1 h8
              by_cases e : i' < j
              · exact hv i' x' i0 e x0 x1 h8
              · rw [show i' = x by omega] at h8 ⊢
                exact hvx x' x0 (by omega) h8
          · exfalso; omega
        · intro i hi ih2 h2 lo2 y hy hB hL hf hv hvx
          obtain ⟨a0, a1, a2, a3, a4, a5, a6, a7, a8, a9⟩ := id hL
          obtain ⟨b0, b1, b2, b3, b4, b5, b6, b7, b8⟩ := id hB
          have erd := lay8_rd (f := lpA ln rs x) (sz := sz) (x := y) (by omega) (by omega) (by omega)
          have hlx := hlp x y
          have ero : odA o2 (lrA sz) y = odR (lay8 (lpA ln rs x) sz) (List.replicate 8 8) ch sz (lrA sz).toNat y := by
            have := hrow (lrA sz).toNat (by omega) y (by omega) (by omega)
            rw [show (((lrA sz).toNat : Nat) : Int) = lrA sz by omega] at this
            exact this
          refine wp_il5 (q := 34) dX1_weigh_32 rfl (wp_al1 (q := 35) dX1_weigh_34 rfl (wp_getf (q := 38) dX1_weigh_35 rfl f7 b0 b1 rfl (fun z => nomatch z) (wp_icmp_ge (t := 66) (q := 41) dX1_weigh_38 rfl rfl (fun c38 => ?_) (fun c38 => ?_))))
          · exfalso; omega
          · refine wp_al0 (q := 42) dX1_weigh_41 rfl (wp_il4 (q := 44) dX1_weigh_42 rfl (wp_al1 (q := 45) dX1_weigh_44 rfl (wp_il5 (q := 47) dX1_weigh_45 rfl (wp_v1I (q := 50) dX1_weigh_47 rfl q97 (Nat.le_of_ble_eq_true rfl) rfl b0 b1 rfl rfl (by have z := ct_playerAt (d + 4) hB (x := y); rw [erd] at z; exact z) (wp_al1 (q := 51) dX1_weigh_50 rfl (wp_il3 (q := 52) dX1_weigh_51 rfl (wp_il5 (q := 54) dX1_weigh_52 rfl (wp_v2I (q := 57) dX1_weigh_54 rfl q106 (Nat.le_of_ble_eq_true rfl) rfl b0 b1 rfl rfl (by have z := ct_oddsOf (d + 4) hB (r := lrA sz) (x := y) (by omega) (by omega) (by omega) (by omega); rw [ero] at z; exact z) (wp_v3V (q := 60) dX1_weigh_57 rfl q107 (Nat.le_of_ble_eq_true rfl) rfl a0 a1 rfl rfl ((ct_LsetOdds (d + 3) hL (by omega) (by omega) (by omega) (by omega))) (wp_ii5 (q := 63) dX1_weigh_60 rfl rfl (by omega) (by omega) (wp_goto (q := 32) dX1_weigh_63 rfl ?_)))))))))))
            refine ih2 _ (lsA ln lo2 x (lpA ln rs x y) _) (y + 1) (by omega) (hB.fr (fun j _ _ => fr_set (by omega))) (hL.setO (by rw [lsA_len]; exact a7)) (fun j' j1 j2 => by rw [fr_set (by omega)]; exact hf j' j1 j2) ?_ ?_
            · intro i' x' i0 i1 x0 x1 h8
              have hl9 := hlp i' x'
              rw [loA_ls a7 a9 (by omega) (by omega) hlx.1 i0 (by omega) hl9.1 (by omega), if_neg (by omega)]
              exact hv i' x' i0 i1 x0 x1 h8
            · intro z z0 z1 h8
              have hl9 := hlp x z
              rw [loA_ls a7 a9 (by omega) (by omega) hlx.1 (by omega) (by omega) hl9.1 (by omega)]
              by_cases e : lpA ln rs x z = lpA ln rs x y
              · have ezy := hds x z y (by omega) (by omega) z0 (by omega) (by omega) (by omega) e h8
                rw [if_pos ⟨rfl, e⟩, ezy]
              · rw [if_neg (fun w => e w.2)]
                refine hvx z z0 ?_ h8
                by_cases e2 : z = y
                · exact absurd (by rw [e2]) e
                · omega
      refine wp_il4 (q := 10) dX1_weigh_8 rfl (wp_al0 (q := 11) dX1_weigh_10 rfl (wp_getf (q := 14) dX1_weigh_11 rfl f11 a0 a1 rfl (fun z => nomatch z) (wp_icmp_ge (t := 72) (q := 17) dX1_weigh_14 rfl rfl (fun c14 => ?_) (fun c14 => ?_))))
      · exfalso; omega
      · refine wp_al0 (q := 18) dX1_weigh_17 rfl (wp_al1 (q := 19) dX1_weigh_18 rfl (wp_il4 (q := 21) dX1_weigh_19 rfl (wp_v2V (q := 24) dX1_weigh_21 rfl q104 (Nat.le_of_ble_eq_true rfl) rfl a0 a1 rfl rfl ((ct_layInto (d + 2) hL hB hkc hpt (by omega) (by omega))) ?_)))
        have hB := (hB.setP (pl' := lay8 (lpA ln rs x) sz) hlw).setW (wi' := List.replicate 8 8) (by rw [List.length_replicate])
        have hL : LiAt ((h1.set (c + 1) (mA (lay8 (lpA ln rs x) sz))).set (c + 2) (mA (List.replicate 8 8))) k ln rw rs lo := hL.fr (fun j _ _ => by rw [fr_set (by omega), fr_set (by omega)])
        have hR : RoAt ((h1.set (c + 1) (mA (lay8 (lpA ln rs x) sz))).set (c + 2) (mA (List.replicate 8 8))) q n ch ro := hR.fr (fun j _ _ => by rw [fr_set (by omega), fr_set (by omega)])
        have hp : ((h1.set (c + 1) (mA (lay8 (lpA ln rs x) sz))).set (c + 2) (mA (List.replicate 8 8)))[0]? = some (mJ mPT) := gs_ne (gs_ne hp (by omega)) (by omega)
        obtain ⟨a0, a1, a2, a3, a4, a5, a6, a7, a8, a9⟩ := id hL
        obtain ⟨b0, b1, b2, b3, b4, b5, b6, b7, b8⟩ := id hB
        obtain ⟨r0, r1, r2, r3, r4, r5⟩ := id hR
        refine wp_al1 (q := 25) dX1_weigh_24 rfl (wp_al2 (q := 26) dX1_weigh_25 rfl (wp_v1 (q := 29) dX1_weigh_26 rfl q105 (Nat.le_of_ble_eq_true rfl) rfl b0 b1 rfl rfl (ct_weigh d hB hR hp hch hqc hli) (fun r9 h9 e9 => ?_)))
        obtain ⟨rfl, o2, ho2, rfl, hrow⟩ := e9
        have hB := hB.setO (od' := o2) ho2
        have hL : LiAt _ k ln rw rs lo := hL.fr (h' := (((h1.set (c + 1) (mA (lay8 (lpA ln rs x) sz))).set (c + 2) (mA (List.replicate 8 8))).set (c + 3) (mJ o2))) (fun j _ _ => fr_set (by omega))
        show Wp _ _ _ _ [] _ _ _
        refine wp_ic (q := 30) dX1_weigh_29 rfl (by decide) (by decide) (wp_is5 (q := 32) dX1_weigh_30 rfl rfl ?_)
        refine inner o2 ho2 hrow 0 (Nat.zero_le _) _ lo 0 rfl hB hL (fun j' j1 j2 => ?_) hv (fun z z0 z1 => by omega)
        rw [fr_set (by omega), fr_set (by omega), fr_set (by omega)]
        exact hf j' j1 j2
  show Wp _ mX1_weigh 0 [mR k, mR c, mR q, mU, mU, mU] [] h (0, 0) _
  refine wp_al1 (q := 1) dX1_weigh_0 rfl (wp_v0I (q := 4) dX1_weigh_1 rfl q103 (Nat.le_of_ble_eq_true rfl) rfl b0 b1 rfl rfl (ct_lastRound (d + 4) hB) (wp_is3 (q := 5) dX1_weigh_4 rfl rfl (wp_ic (q := 6) dX1_weigh_5 rfl (by decide) (by decide) (wp_is4 (q := 8) dX1_weigh_6 rfl rfl ?_))))
  exact key 0 (Nat.zero_le _) h pl wi od lo 0 mU rfl hB hpt hL (fun _ _ _ => rfl) (fun i x i0 i1 => by omega)
