/-! CupDraws: its state; players, chances, places (rows laid by wip/whole) -/
def CuAt (h : List mC) (k : Nat) (li we : Int) : Prop := 2 ≤ k ∧ h[k]? = some (mO 3 [mR (k + 1), mR (k + 4), mR (k + 8), mR (k + 12), mI li, mI we])
def CU (h : List mC) (k : Nat) (li we : Int) (n sz : Nat) (ch ro pl wi od : List Int) (tsz : Int) (tpl twi tod : List Int) (ln : Int) (rw rs lo : List Int) : Prop := CuAt h k li we ∧ RoAt h (k + 1) n ch ro ∧ BrAt h (k + 4) sz pl wi od ∧ BrAt h (k + 8) tsz tpl twi tod ∧ LiAt h (k + 12) ln rw rs lo ∧ h[0]? = some (mJ mPT)
def rowsO (n sz : Nat) (ro : List Int) : List (List Int) := (if n ≤ sz then fillR n sz ro sz 0 [] else []).take 315
def WtOk (ln : Int) (sz : Nat) (rs lo ch : List Int) : Prop := ∀ i x : Int, 0 ≤ i → i < ln → 0 ≤ x → x < sz → lpA ln rs i x ≠ 8 → loA ln lo i (lpA ln rs i x) = odR (lay8 (lpA ln rs i) sz) (List.replicate 8 8) ch sz (lrA sz).toNat x
/-- the object's state: players, size, chances, rounds, places, winners; the list is right where it says so -/
def CSx (f : Int → Int → Prop) (h : List mC) (k n sz : Nat) (ch ro pl wi : List Int) : Prop := ∃ (li we : Int) (od : List Int) (tsz : Int) (tpl twi tod : List Int) (ln : Int) (rw rs lo : List Int), CU h k li we n sz ch ro pl wi od tsz tpl twi tod ln rw rs lo ∧ v8 rs ∧ (li = 0 ∨ li = 1) ∧ (we = 0 ∨ we = 1) ∧ (li = 1 → ln = ((rowsO n sz ro).length : Nat) ∧ RwA (rowsO n sz ro) rs) ∧ (li = 1 → we = 1 → WtOk ln sz rs lo ch) ∧ f li we
abbrev CS := CSx (fun _ _ => True)
theorem CSx.weak {f : Int → Int → Prop} {h : List mC} {k n sz : Nat} {ch ro pl wi : List Int} (hS : CSx f h k n sz ch ro pl wi) : CS h k n sz ch ro pl wi := by
  obtain ⟨li, we, od, tsz, tpl, twi, tod, ln, rw, rs, lo, hU, hvr, hli, hwe, hlr, hlw, hf0⟩ := hS
  exact ⟨li, we, od, tsz, tpl, twi, tod, ln, rw, rs, lo, hU, hvr, hli, hwe, hlr, hlw, trivial⟩
section CUF
variable {h h' : List mC} {k n n' sz sz' : Nat} {li we li' we' : Int} {ch ro pl wi od tpl twi tod rw rs lo ch' ro' pl' wi' od' tpl' twi' tod' rw' rs' lo' : List Int} {tsz tsz' ln ln' : Int}
theorem CuAt.fr (hC : CuAt h k li we) (hf : h'[k]? = h[k]?) : CuAt h' k li we := ⟨hC.1, by rw [hf]; exact hC.2⟩
theorem CU.fRo (hU : CU h k li we n sz ch ro pl wi od tsz tpl twi tod ln rw rs lo) (hR : RoAt h' (k + 1) n' ch' ro') (hf : ∀ j : Nat, (j < k + 1 ∨ k + 1 + 3 ≤ j) → h'[j]? = h[j]?) : CU h' k li we n' sz ch' ro' pl wi od tsz tpl twi tod ln rw rs lo := by
  obtain ⟨h1, h2, h3, h4, h5, h6⟩ := hU
  exact ⟨h1.fr (hf _ (by omega)), hR, h3.fr (fun j _ _ => hf j (by omega)), h4.fr (fun j _ _ => hf j (by omega)), h5.fr (fun j _ _ => hf j (by omega)), by rw [hf 0 (by omega)]; exact h6⟩
theorem CU.fBr (hU : CU h k li we n sz ch ro pl wi od tsz tpl twi tod ln rw rs lo) (hB : BrAt h' (k + 4) sz' pl' wi' od') (hf : ∀ j : Nat, (j < k + 4 ∨ k + 4 + 4 ≤ j) → h'[j]? = h[j]?) : CU h' k li we n sz' ch ro pl' wi' od' tsz tpl twi tod ln rw rs lo := by
  obtain ⟨h1, h2, h3, h4, h5, h6⟩ := hU
  exact ⟨h1.fr (hf _ (by omega)), h2.fr (fun j _ _ => hf j (by omega)), hB, h4.fr (fun j _ _ => hf j (by omega)), h5.fr (fun j _ _ => hf j (by omega)), by rw [hf 0 (by omega)]; exact h6⟩
theorem CU.fTr (hU : CU h k li we n sz ch ro pl wi od tsz tpl twi tod ln rw rs lo) (hT : BrAt h' (k + 8) tsz' tpl' twi' tod') (hf : ∀ j : Nat, (j < k + 8 ∨ k + 8 + 4 ≤ j) → h'[j]? = h[j]?) : CU h' k li we n sz ch ro pl wi od tsz' tpl' twi' tod' ln rw rs lo := by
  obtain ⟨h1, h2, h3, h4, h5, h6⟩ := hU
  exact ⟨h1.fr (hf _ (by omega)), h2.fr (fun j _ _ => hf j (by omega)), h3.fr (fun j _ _ => hf j (by omega)), hT, h5.fr (fun j _ _ => hf j (by omega)), by rw [hf 0 (by omega)]; exact h6⟩
theorem CU.fLi (hU : CU h k li we n sz ch ro pl wi od tsz tpl twi tod ln rw rs lo) (hL : LiAt h' (k + 12) ln' rw' rs' lo') (hf : ∀ j : Nat, (j < k + 12 ∨ k + 12 + 4 ≤ j) → h'[j]? = h[j]?) : CU h' k li we n sz ch ro pl wi od tsz tpl twi tod ln' rw' rs' lo' := by
  obtain ⟨h1, h2, h3, h4, h5, h6⟩ := hU
  exact ⟨h1.fr (hf _ (by omega)), h2.fr (fun j _ _ => hf j (by omega)), h3.fr (fun j _ _ => hf j (by omega)), h4.fr (fun j _ _ => hf j (by omega)), hL, by rw [hf 0 (by omega)]; exact h6⟩
theorem CU.fTL (hU : CU h k li we n sz ch ro pl wi od tsz tpl twi tod ln rw rs lo) (hT : BrAt h' (k + 8) tsz' tpl' twi' tod') (hL : LiAt h' (k + 12) ln' rw' rs' lo') (hf : ∀ j : Nat, (j < k + 8 ∨ k + 16 ≤ j) → h'[j]? = h[j]?) : CU h' k li we n sz ch ro pl wi od tsz' tpl' twi' tod' ln' rw' rs' lo' := by
  obtain ⟨h1, h2, h3, h4, h5, h6⟩ := hU
  exact ⟨h1.fr (hf _ (by omega)), h2.fr (fun j _ _ => hf j (by omega)), h3.fr (fun j _ _ => hf j (by omega)), hT, hL, by rw [hf 0 (by omega)]; exact h6⟩
theorem CU.fCu (hU : CU h k li we n sz ch ro pl wi od tsz tpl twi tod ln rw rs lo) : CU (h.set k (mO 3 [mR (k + 1), mR (k + 4), mR (k + 8), mR (k + 12), mI li', mI we'])) k li' we' n sz ch ro pl wi od tsz tpl twi tod ln rw rs lo := by
  obtain ⟨h1, h2, h3, h4, h5, h6⟩ := hU
  exact ⟨⟨h1.1, gs_eq h1.2⟩, h2.fr (fun j _ _ => fr_set (by omega)), h3.fr (fun j _ _ => fr_set (by omega)), h4.fr (fun j _ _ => fr_set (by omega)), h5.fr (fun j _ _ => fr_set (by omega)), by rw [fr_set (by have := h1.1; omega)]; exact h6⟩
end CUF
theorem rep_len {v : Int} : (List.replicate 8 v).length = 8 := List.length_replicate
-- the writers, by what they leave
section WRI
variable {d : Nat} {h : List mC} {k : Nat} {n sz : Int} {ch ro pl wi od : List Int}
theorem cr_renew (hB : RoAt h k n ch ro) {x : Int} : Ct (d + 1) mX2_renew [mR k, mI x] h (fun r9 h9 => r9 = none ∧ RoAt h9 k x (List.replicate 64 6) (List.replicate 64 1) ∧ ∀ j : Nat, (j < k ∨ k + 3 ≤ j) → h9[j]? = h[j]?) :=
  wp_post (ct_renew d hB) (by
    rintro r9 h9 ⟨rfl, rfl⟩
    exact ⟨rfl, ((hB.setN (n' := x)).setC (ch' := List.replicate 64 6) List.length_replicate).setR (ro' := List.replicate 64 1) List.length_replicate, fun j hj => by rw [fr_set (by omega), fr_set (by omega), fr_set (by omega)]⟩)
theorem cr_setChance (hB : RoAt h k n ch ro) {x y v : Int} (hx0 : 0 ≤ x) (hx1 : x < 8) (hy0 : 0 ≤ y) (hy1 : y < 8) (hv0 : 0 ≤ v) (hv1 : v ≤ 12) : Ct (d + 1) mX2_setChance [mR k, mI x, mI y, mI v] h (fun r9 h9 => r9 = none ∧ RoAt h9 k n (sI (sI ch (x * 8 + y) v) (y * 8 + x) (12 - v)) ro ∧ ∀ j : Nat, (j < k ∨ k + 3 ≤ j) → h9[j]? = h[j]?) :=
  wp_post (ct_setChance d hB hx0 hx1 hy0 hy1 hv0 hv1) (by
    rintro r9 h9 ⟨rfl, rfl⟩
    exact ⟨rfl, hB.setC (by rw [sI_len, sI_len]; exact hB.2.2.2.2.1), fun j hj => by rw [fr_set (by omega)]⟩)
theorem cr_setApart (hB : RoAt h k n ch ro) {x y v : Int} (hx0 : 0 ≤ x) (hx1 : x < 8) (hy0 : 0 ≤ y) (hy1 : y < 8) (hv0 : 0 ≤ v) (hv1 : v ≤ 12) : Ct (d + 1) mX2_setApart [mR k, mI x, mI y, mI v] h (fun r9 h9 => r9 = none ∧ RoAt h9 k n ch (sI (sI ro (x * 8 + y) v) (y * 8 + x) v) ∧ ∀ j : Nat, (j < k ∨ k + 3 ≤ j) → h9[j]? = h[j]?) :=
  wp_post (ct_setApart d hB hx0 hx1 hy0 hy1 hv0 hv1) (by
    rintro r9 h9 ⟨rfl, rfl⟩
    exact ⟨rfl, hB.setR (by rw [sI_len, sI_len]; exact hB.2.2.2.2.2), fun j hj => by rw [fr_set (by omega)]⟩)
theorem cr_clear (hB : BrAt h k sz pl wi od) : Ct (d + 2) mX0_clear [mR k] h (fun r9 h9 => r9 = none ∧ BrAt h9 k sz (List.replicate 8 8) (List.replicate 8 8) od ∧ ∀ j : Nat, (j < k ∨ k + 4 ≤ j) → h9[j]? = h[j]?) :=
  wp_post (ct_clear d hB) (by
    rintro r9 h9 ⟨rfl, rfl⟩
    exact ⟨rfl, (hB.setP (pl' := List.replicate 8 8) rep_len).setW (wi' := List.replicate 8 8) rep_len, fun j hj => by rw [fr_set (by omega), fr_set (by omega)]⟩)
theorem cr_resize (hB : BrAt h k sz pl wi od) {sz' : Int} (hs : sz' = 2 ∨ sz' = 4 ∨ sz' = 8) : Ct (d + 3) mX0_resize [mR k, mI sz'] h (fun r9 h9 => r9 = none ∧ BrAt h9 k sz' (List.replicate 8 8) (List.replicate 8 8) od ∧ ∀ j : Nat, (j < k ∨ k + 4 ≤ j) → h9[j]? = h[j]?) :=
  wp_post (ct_resize d hB hs) (by
    rintro r9 h9 ⟨rfl, rfl⟩
    exact ⟨rfl, ((hB.setS hs).setP (pl' := List.replicate 8 8) rep_len).setW (wi' := List.replicate 8 8) rep_len, fun j hj => by rw [fr_set (by omega), fr_set (by omega), fr_set (by omega)]⟩)
theorem cr_setPlace (hB : BrAt h k sz pl wi od) {x v : Int} (h0 : 0 ≤ x) (h1 : x < 8) : Ct (d + 0) mX0_setPlace [mR k, mI x, mI v] h (fun r9 h9 => r9 = none ∧ BrAt h9 k sz (sI pl x v) wi od ∧ ∀ j : Nat, (j < k ∨ k + 4 ≤ j) → h9[j]? = h[j]?) :=
  wp_post (ct_setPlace d hB h0 h1) (by
    rintro r9 h9 ⟨rfl, rfl⟩
    exact ⟨rfl, hB.setP (by rw [sI_len]; exact hB.2.2.2.2.2.1), fun j hj => by rw [fr_set (by omega)]⟩)
theorem cr_setWinner (hB : BrAt h k sz pl wi od) {x v : Int} (h0 : 0 ≤ x) (h1 : x < 8) : Ct (d + 0) mX0_setWinner [mR k, mI x, mI v] h (fun r9 h9 => r9 = none ∧ BrAt h9 k sz pl (sI wi x v) od ∧ ∀ j : Nat, (j < k ∨ k + 4 ≤ j) → h9[j]? = h[j]?) :=
  wp_post (ct_setWinner d hB h0 h1) (by
    rintro r9 h9 ⟨rfl, rfl⟩
    exact ⟨rfl, hB.setW (by rw [sI_len]; exact hB.2.2.2.2.2.2.1), fun j hj => by rw [fr_set (by omega)]⟩)
theorem cr_openAll (hB : BrAt h k sz pl wi od) : Ct (d + 1) mX0_openAll [mR k] h (fun r9 h9 => r9 = none ∧ BrAt h9 k sz pl (List.replicate 8 8) od ∧ ∀ j : Nat, (j < k ∨ k + 4 ≤ j) → h9[j]? = h[j]?) :=
  wp_post (ct_openAll d hB) (by
    rintro r9 h9 ⟨rfl, rfl⟩
    exact ⟨rfl, hB.setW (wi' := List.replicate 8 8) rep_len, fun j hj => by rw [fr_set (by omega)]⟩)
theorem cr_openUpwards (hB : BrAt h k sz pl wi od) {m : Int} (h0 : 0 ≤ m) (h1 : m < 100) : Ct (d + 1) mX0_openUpwards [mR k, mI m] h (fun r9 h9 => r9 = none ∧ BrAt h9 k sz pl (upW sz 3 m wi) od ∧ ∀ j : Nat, (j < k ∨ k + 4 ≤ j) → h9[j]? = h[j]?) :=
  wp_post (ct_openUpwards d hB h0 h1) (by
    rintro r9 h9 ⟨rfl, rfl⟩
    exact ⟨rfl, hB.setW (by rw [upW_len]; exact hB.2.2.2.2.2.2.1), fun j hj => by rw [fr_set (by omega)]⟩)
end WRI
def spPlayers (n : Nat) (x : Int) : Int := if x < 2 ∨ 8 < x then -2 else n
theorem cs_players (d : Nat) {h : List mC} {k n sz : Nat} {ch ro pl wi : List Int} (hS : CS h k n sz ch ro pl wi) {x : Int} (hn : n ≤ 8) : Ct (d + 3) mX3_players [mR k, mI x] h (fun r9 h9 => r9 = some (mI (spPlayers n x)) ∧ (if x < 2 ∨ 8 < x then CS h9 k n sz ch ro pl wi else CS h9 k x.toNat sz (List.replicate 64 6) (List.replicate 64 1) (List.replicate 8 8) (List.replicate 8 8)) ∧ ∀ j : Nat, (j < k ∨ k + 16 ≤ j) → h9[j]? = h[j]?) := by
  obtain ⟨li, we, od, tsz, tpl, twi, tod, ln, rw, rs, lo, hU, hvr, hli, hwe, hlr, hlw, hf0⟩ := id hS
  obtain ⟨hC, hR, hB, hT, hL, hp⟩ := id hU
  obtain ⟨c0, c1⟩ := id hC
  obtain ⟨r0, r1, r2, r3, r4, r5⟩ := id hR
  obtain ⟨b0, b1, b2, b3, b4, b5, b6, b7, b8⟩ := id hB
  obtain ⟨t0, t1, t2, t3, t4, t5, t6, t7, t8⟩ := id hT
  obtain ⟨a0, a1, a2, a3, a4, a5, a6, a7, a8, a9⟩ := id hL
  show Wp _ mX3_players 0 [mR k, mI x, mU] [] h (0, 0) _
  refine wp_il1 (q := 1) dX3_players_0 rfl (wp_ic (q := 2) dX3_players_1 rfl (by decide) (by decide) (wp_icmp_lt (t := 11) (q := 5) dX3_players_2 rfl rfl (fun c2 => ?_) (fun c2 => ?_)))
  · refine wp_bi (q := 13) dX3_players_11 rfl (by decide) (by decide) (wp_iret dX3_players_13 rfl ?_)
    exact ⟨rI (by unfold spPlayers; rw [if_pos (by omega)]), by rw [if_pos (by omega)]; exact hS, fun _ _ => rfl⟩
  · refine wp_il1 (q := 6) dX3_players_5 rfl (wp_bi (q := 8) dX3_players_6 rfl (by decide) (by decide) (wp_icmp_le (t := 14) (q := 11) dX3_players_8 rfl rfl (fun c8 => ?_) (fun c8 => ?_)))
    · refine wp_al0 (q := 15) dX3_players_14 rfl (wp_getf (q := 18) dX3_players_15 rfl f16 c0 c1 rfl (fun z => nomatch z) (wp_getf (q := 21) dX3_players_18 rfl f1 r0 r1 rfl (fun z => nomatch z) (wp_is2 (q := 22) dX3_players_21 rfl rfl (wp_al0 (q := 23) dX3_players_22 rfl (wp_getf (q := 26) dX3_players_23 rfl f16 c0 c1 rfl (fun z => nomatch z) (wp_il1 (q := 27) dX3_players_26 rfl (wp_v1 (q := 30) dX3_players_27 rfl q11 (Nat.le_of_ble_eq_true rfl) rfl r0 r1 rfl rfl ((cr_renew (d := 0) hR (x := x)).up (by omega)) (fun r9 h9 e9 => ?_))))))))
      obtain ⟨rfl, hR9, hf10⟩ := e9
      rw [show x = ((x.toNat : Nat) : Int) by omega] at hR9
      have hU := hU.fRo hR9 hf10
      obtain ⟨hC, hR, hB, hT, hL, hp⟩ := id hU
      obtain ⟨c0, c1⟩ := id hC
      obtain ⟨r0, r1, r2, r3, r4, r5⟩ := id hR
      obtain ⟨b0, b1, b2, b3, b4, b5, b6, b7, b8⟩ := id hB
      obtain ⟨t0, t1, t2, t3, t4, t5, t6, t7, t8⟩ := id hT
      obtain ⟨a0, a1, a2, a3, a4, a5, a6, a7, a8, a9⟩ := id hL
      show Wp _ _ _ _ [] _ _ _
      refine wp_al0 (q := 31) dX3_players_30 rfl (wp_getf (q := 34) dX3_players_31 rfl f17 c0 c1 rfl (fun z => nomatch z) (wp_v0 (q := 37) dX3_players_34 rfl q12 (Nat.le_of_ble_eq_true rfl) rfl b0 b1 rfl rfl (cr_clear hB) (fun r9 h9 e9 => ?_)))
      obtain ⟨rfl, hB9, hf11⟩ := e9
      have hU := hU.fBr hB9 hf11
      obtain ⟨hC, hR, hB, hT, hL, hp⟩ := id hU
      obtain ⟨c0, c1⟩ := id hC
      obtain ⟨r0, r1, r2, r3, r4, r5⟩ := id hR
      obtain ⟨b0, b1, b2, b3, b4, b5, b6, b7, b8⟩ := id hB
      obtain ⟨t0, t1, t2, t3, t4, t5, t6, t7, t8⟩ := id hT
      obtain ⟨a0, a1, a2, a3, a4, a5, a6, a7, a8, a9⟩ := id hL
      show Wp _ _ _ _ [] _ _ _
      refine wp_al0 (q := 38) dX3_players_37 rfl (wp_ic (q := 39) dX3_players_38 rfl (by decide) (by decide) (wp_putf (q := 42) dX3_players_39 rfl f20 c0 c1 (Nat.le_of_ble_eq_true rfl) (Or.inl rfl) (fun z => absurd z (by decide)) (wp_il2 (q := 43) dX3_players_42 rfl (wp_iret dX3_players_43 rfl ?_))))
      refine ⟨rI (by unfold spPlayers; rw [if_neg (by omega)]), ?_, fun j hj => by rw [fr_set (by omega), hf11 j (by omega), hf10 j (by omega)]⟩
      rw [if_neg (by omega)]
      exact ⟨0, we, od, tsz, tpl, twi, tod, ln, rw, rs, lo, hU.fCu, hvr, Or.inl rfl, hwe, fun z => absurd z (by decide), fun z => absurd z (by decide), trivial⟩
    · refine wp_bi (q := 13) dX3_players_11 rfl (by decide) (by decide) (wp_iret dX3_players_13 rfl ?_)
      exact ⟨rI (by unfold spPlayers; rw [if_pos (by omega)]), by rw [if_pos (by omega)]; exact hS, fun _ _ => rfl⟩
def spchance (n : Nat) (l : List Int) (x y v : Int) : Int := if ¬ ((0 ≤ x ∧ x < n) ∧ (0 ≤ y ∧ y < n)) then -1 else if v < 0 ∨ 12 < v then -2 else if x = y then -3 else chA l x y 0
theorem cs_chance (d : Nat) {h : List mC} {k n sz : Nat} {ch ro pl wi : List Int} (hS : CS h k n sz ch ro pl wi) {x y v : Int} (hn : n ≤ 8) : Ct (d + 2) mX3_chance [mR k, mI x, mI y, mI v] h (fun r9 h9 => r9 = some (mI (spchance n ch x y v)) ∧ (if (0 ≤ x ∧ x < n) ∧ (0 ≤ y ∧ y < n) ∧ 0 ≤ v ∧ v ≤ 12 ∧ x ≠ y then CS h9 k n sz (sI (sI ch (x * 8 + y) v) (y * 8 + x) (12 - v)) ro pl wi else CS h9 k n sz ch ro pl wi) ∧ ∀ j : Nat, (j < k ∨ k + 16 ≤ j) → h9[j]? = h[j]?) := by
  obtain ⟨li, we, od, tsz, tpl, twi, tod, ln, rw, rs, lo, hU, hvr, hli, hwe, hlr, hlw, hf0⟩ := id hS
  obtain ⟨hC, hR, hB, hT, hL, hp⟩ := id hU
  obtain ⟨c0, c1⟩ := id hC
  obtain ⟨r0, r1, r2, r3, r4, r5⟩ := id hR
  obtain ⟨b0, b1, b2, b3, b4, b5, b6, b7, b8⟩ := id hB
  obtain ⟨t0, t1, t2, t3, t4, t5, t6, t7, t8⟩ := id hT
  obtain ⟨a0, a1, a2, a3, a4, a5, a6, a7, a8, a9⟩ := id hL
  show Wp _ mX3_chance 0 [mR k, mI x, mI y, mI v, mU] [] h (0, 0) _
  refine wp_al0 (q := 1) dX3_chance_0 rfl (wp_getf (q := 4) dX3_chance_1 rfl f16 c0 c1 rfl (fun z => nomatch z) (wp_il1 (q := 5) dX3_chance_4 rfl (wp_v1I (q := 8) dX3_chance_5 rfl q14 (Nat.le_of_ble_eq_true rfl) rfl r0 r1 rfl rfl (ct_Rhas (d + 1) hR) (wp_ifb_eq (t := 22) (q := 11) dX3_chance_8 rfl rfl (fun c8 => ?_) (fun c8 => ?_)))))
  · refine wp_ic (q := 23) dX3_chance_22 rfl (by decide) (by decide) (wp_iret dX3_chance_23 rfl ?_)
    refine ⟨rI ?_, by rw [if_neg (by omega)]; exact hS, fun _ _ => rfl⟩
    unfold spchance
    (repeat' split) <;> omega
  · refine wp_al0 (q := 12) dX3_chance_11 rfl (wp_getf (q := 15) dX3_chance_12 rfl f16 c0 c1 rfl (fun z => nomatch z) (wp_il2 (q := 16) dX3_chance_15 rfl (wp_v1I (q := 19) dX3_chance_16 rfl q14 (Nat.le_of_ble_eq_true rfl) rfl r0 r1 rfl rfl (ct_Rhas (d + 1) hR) (wp_ifb_ne (t := 24) (q := 22) dX3_chance_19 rfl rfl (fun c19 => ?_) (fun c19 => ?_)))))
    · refine wp_il3 (q := 25) dX3_chance_24 rfl (wp_if_lt (t := 34) (q := 28) dX3_chance_25 rfl rfl (fun c25 => ?_) (fun c25 => ?_))
      · refine wp_bi (q := 36) dX3_chance_34 rfl (by decide) (by decide) (wp_iret dX3_chance_36 rfl ?_)
        refine ⟨rI ?_, by rw [if_neg (by omega)]; exact hS, fun _ _ => rfl⟩
        unfold spchance
        (repeat' split) <;> omega
      · refine wp_il3 (q := 29) dX3_chance_28 rfl (wp_bi (q := 31) dX3_chance_29 rfl (by decide) (by decide) (wp_icmp_le (t := 37) (q := 34) dX3_chance_31 rfl rfl (fun c31 => ?_) (fun c31 => ?_)))
        · refine wp_il1 (q := 38) dX3_chance_37 rfl (wp_il2 (q := 39) dX3_chance_38 rfl (wp_icmp_ne (t := 45) (q := 42) dX3_chance_39 rfl rfl (fun c39 => ?_) (fun c39 => ?_)))
          · refine wp_al0 (q := 46) dX3_chance_45 rfl (wp_getf (q := 49) dX3_chance_46 rfl f16 c0 c1 rfl (fun z => nomatch z) (wp_il1 (q := 50) dX3_chance_49 rfl (wp_il2 (q := 51) dX3_chance_50 rfl (wp_v2I (q := 54) dX3_chance_51 rfl q15 (Nat.le_of_ble_eq_true rfl) rfl r0 r1 rfl rfl (ct_chanceOf (d + 1) hR (by omega) (by omega) (by omega) (by omega)) (wp_is4 (q := 56) dX3_chance_54 rfl rfl (wp_al0 (q := 57) dX3_chance_56 rfl (wp_getf (q := 60) dX3_chance_57 rfl f16 c0 c1 rfl (fun z => nomatch z) (wp_il1 (q := 61) dX3_chance_60 rfl (wp_il2 (q := 62) dX3_chance_61 rfl (wp_il3 (q := 63) dX3_chance_62 rfl (wp_v3 (q := 66) dX3_chance_63 rfl q16 (Nat.le_of_ble_eq_true rfl) rfl r0 r1 rfl rfl (cr_setChance hR (by omega) (by omega) (by omega) (by omega) (by omega) (by omega)) (fun r9 h9 e9 => ?_))))))))))))
            obtain ⟨rfl, hR9, hf10⟩ := e9
            have hU := hU.fRo hR9 hf10
            obtain ⟨hC, hR, hB, hT, hL, hp⟩ := id hU
            obtain ⟨c0, c1⟩ := id hC
            obtain ⟨r0, r1, r2, r3, r4, r5⟩ := id hR
            obtain ⟨b0, b1, b2, b3, b4, b5, b6, b7, b8⟩ := id hB
            obtain ⟨t0, t1, t2, t3, t4, t5, t6, t7, t8⟩ := id hT
            obtain ⟨a0, a1, a2, a3, a4, a5, a6, a7, a8, a9⟩ := id hL
            show Wp _ _ _ _ [] _ _ _
            refine wp_al0 (q := 67) dX3_chance_66 rfl (wp_ic (q := 68) dX3_chance_67 rfl (by decide) (by decide) (wp_putf (q := 71) dX3_chance_68 rfl f21 c0 c1 (Nat.le_of_ble_eq_true rfl) (Or.inl rfl) (fun z => absurd z (by decide)) (wp_il4 (q := 73) dX3_chance_71 rfl (wp_iret dX3_chance_73 rfl ?_))))
            refine ⟨rI ?_, ?_, fun j hj => by rw [fr_set (by omega), hf10 j (by omega)]⟩
            · unfold spchance
              rw [if_neg (by omega), if_neg (by omega), if_neg (by omega)]
            · rw [if_pos (by omega)]
              exact ⟨li, 0, od, tsz, tpl, twi, tod, ln, rw, rs, lo, hU.fCu, hvr, hli, Or.inl rfl, hlr, fun _ z => absurd z (by decide), trivial⟩
          · refine wp_bi (q := 44) dX3_chance_42 rfl (by decide) (by decide) (wp_iret dX3_chance_44 rfl ?_)
            refine ⟨rI ?_, by rw [if_neg (by omega)]; exact hS, fun _ _ => rfl⟩
            unfold spchance
            (repeat' split) <;> omega
        · refine wp_bi (q := 36) dX3_chance_34 rfl (by decide) (by decide) (wp_iret dX3_chance_36 rfl ?_)
          refine ⟨rI ?_, by rw [if_neg (by omega)]; exact hS, fun _ _ => rfl⟩
          unfold spchance
          (repeat' split) <;> omega
    · refine wp_ic (q := 23) dX3_chance_22 rfl (by decide) (by decide) (wp_iret dX3_chance_23 rfl ?_)
      refine ⟨rI ?_, by rw [if_neg (by omega)]; exact hS, fun _ _ => rfl⟩
      unfold spchance
      (repeat' split) <;> omega
def spapart (n : Nat) (l : List Int) (x y v : Int) : Int := if ¬ ((0 ≤ x ∧ x < n) ∧ (0 ≤ y ∧ y < n)) then -1 else if v < 1 ∨ 3 < v then -2 else if x = y then -3 else chA l x y 1
theorem cs_apart (d : Nat) {h : List mC} {k n sz : Nat} {ch ro pl wi : List Int} (hS : CS h k n sz ch ro pl wi) {x y v : Int} (hn : n ≤ 8) : Ct (d + 2) mX3_apart [mR k, mI x, mI y, mI v] h (fun r9 h9 => r9 = some (mI (spapart n ro x y v)) ∧ (if (0 ≤ x ∧ x < n) ∧ (0 ≤ y ∧ y < n) ∧ 1 ≤ v ∧ v ≤ 3 ∧ x ≠ y then CS h9 k n sz ch (sI (sI ro (x * 8 + y) v) (y * 8 + x) v) pl wi else CS h9 k n sz ch ro pl wi) ∧ ∀ j : Nat, (j < k ∨ k + 16 ≤ j) → h9[j]? = h[j]?) := by
  obtain ⟨li, we, od, tsz, tpl, twi, tod, ln, rw, rs, lo, hU, hvr, hli, hwe, hlr, hlw, hf0⟩ := id hS
  obtain ⟨hC, hR, hB, hT, hL, hp⟩ := id hU
  obtain ⟨c0, c1⟩ := id hC
  obtain ⟨r0, r1, r2, r3, r4, r5⟩ := id hR
  obtain ⟨b0, b1, b2, b3, b4, b5, b6, b7, b8⟩ := id hB
  obtain ⟨t0, t1, t2, t3, t4, t5, t6, t7, t8⟩ := id hT
  obtain ⟨a0, a1, a2, a3, a4, a5, a6, a7, a8, a9⟩ := id hL
  show Wp _ mX3_apart 0 [mR k, mI x, mI y, mI v, mU] [] h (0, 0) _
  refine wp_al0 (q := 1) dX3_apart_0 rfl (wp_getf (q := 4) dX3_apart_1 rfl f16 c0 c1 rfl (fun z => nomatch z) (wp_il1 (q := 5) dX3_apart_4 rfl (wp_v1I (q := 8) dX3_apart_5 rfl q14 (Nat.le_of_ble_eq_true rfl) rfl r0 r1 rfl rfl (ct_Rhas (d + 1) hR) (wp_ifb_eq (t := 22) (q := 11) dX3_apart_8 rfl rfl (fun c8 => ?_) (fun c8 => ?_)))))
  · refine wp_ic (q := 23) dX3_apart_22 rfl (by decide) (by decide) (wp_iret dX3_apart_23 rfl ?_)
    refine ⟨rI ?_, by rw [if_neg (by omega)]; exact hS, fun _ _ => rfl⟩
    unfold spapart
    (repeat' split) <;> omega
  · refine wp_al0 (q := 12) dX3_apart_11 rfl (wp_getf (q := 15) dX3_apart_12 rfl f16 c0 c1 rfl (fun z => nomatch z) (wp_il2 (q := 16) dX3_apart_15 rfl (wp_v1I (q := 19) dX3_apart_16 rfl q14 (Nat.le_of_ble_eq_true rfl) rfl r0 r1 rfl rfl (ct_Rhas (d + 1) hR) (wp_ifb_ne (t := 24) (q := 22) dX3_apart_19 rfl rfl (fun c19 => ?_) (fun c19 => ?_)))))
    · refine wp_il3 (q := 25) dX3_apart_24 rfl (wp_ic (q := 26) dX3_apart_25 rfl (by decide) (by decide) (wp_icmp_lt (t := 34) (q := 29) dX3_apart_26 rfl rfl (fun c26 => ?_) (fun c26 => ?_)))
      · refine wp_bi (q := 36) dX3_apart_34 rfl (by decide) (by decide) (wp_iret dX3_apart_36 rfl ?_)
        refine ⟨rI ?_, by rw [if_neg (by omega)]; exact hS, fun _ _ => rfl⟩
        unfold spapart
        (repeat' split) <;> omega
      · refine wp_il3 (q := 30) dX3_apart_29 rfl (wp_ic (q := 31) dX3_apart_30 rfl (by decide) (by decide) (wp_icmp_le (t := 37) (q := 34) dX3_apart_31 rfl rfl (fun c31 => ?_) (fun c31 => ?_)))
        · refine wp_il1 (q := 38) dX3_apart_37 rfl (wp_il2 (q := 39) dX3_apart_38 rfl (wp_icmp_ne (t := 45) (q := 42) dX3_apart_39 rfl rfl (fun c39 => ?_) (fun c39 => ?_)))
          · refine wp_al0 (q := 46) dX3_apart_45 rfl (wp_getf (q := 49) dX3_apart_46 rfl f16 c0 c1 rfl (fun z => nomatch z) (wp_il1 (q := 50) dX3_apart_49 rfl (wp_il2 (q := 51) dX3_apart_50 rfl (wp_v2I (q := 54) dX3_apart_51 rfl q19 (Nat.le_of_ble_eq_true rfl) rfl r0 r1 rfl rfl (ct_apartUntil (d + 1) hR (by omega) (by omega) (by omega) (by omega)) (wp_is4 (q := 56) dX3_apart_54 rfl rfl (wp_al0 (q := 57) dX3_apart_56 rfl (wp_getf (q := 60) dX3_apart_57 rfl f16 c0 c1 rfl (fun z => nomatch z) (wp_il1 (q := 61) dX3_apart_60 rfl (wp_il2 (q := 62) dX3_apart_61 rfl (wp_il3 (q := 63) dX3_apart_62 rfl (wp_v3 (q := 66) dX3_apart_63 rfl q20 (Nat.le_of_ble_eq_true rfl) rfl r0 r1 rfl rfl (cr_setApart hR (by omega) (by omega) (by omega) (by omega) (by omega) (by omega)) (fun r9 h9 e9 => ?_))))))))))))
            obtain ⟨rfl, hR9, hf10⟩ := e9
            have hU := hU.fRo hR9 hf10
            obtain ⟨hC, hR, hB, hT, hL, hp⟩ := id hU
            obtain ⟨c0, c1⟩ := id hC
            obtain ⟨r0, r1, r2, r3, r4, r5⟩ := id hR
            obtain ⟨b0, b1, b2, b3, b4, b5, b6, b7, b8⟩ := id hB
            obtain ⟨t0, t1, t2, t3, t4, t5, t6, t7, t8⟩ := id hT
            obtain ⟨a0, a1, a2, a3, a4, a5, a6, a7, a8, a9⟩ := id hL
            show Wp _ _ _ _ [] _ _ _
            refine wp_al0 (q := 67) dX3_apart_66 rfl (wp_ic (q := 68) dX3_apart_67 rfl (by decide) (by decide) (wp_putf (q := 71) dX3_apart_68 rfl f20 c0 c1 (Nat.le_of_ble_eq_true rfl) (Or.inl rfl) (fun z => absurd z (by decide)) (wp_il4 (q := 73) dX3_apart_71 rfl (wp_iret dX3_apart_73 rfl ?_))))
            refine ⟨rI ?_, ?_, fun j hj => by rw [fr_set (by omega), hf10 j (by omega)]⟩
            · unfold spapart
              rw [if_neg (by omega), if_neg (by omega), if_neg (by omega)]
            · rw [if_pos (by omega)]
              exact ⟨0, we, od, tsz, tpl, twi, tod, ln, rw, rs, lo, hU.fCu, hvr, Or.inl rfl, hwe, fun z => absurd z (by decide), fun z => absurd z (by decide), trivial⟩
          · refine wp_bi (q := 44) dX3_apart_42 rfl (by decide) (by decide) (wp_iret dX3_apart_44 rfl ?_)
            refine ⟨rI ?_, by rw [if_neg (by omega)]; exact hS, fun _ _ => rfl⟩
            unfold spapart
            (repeat' split) <;> omega
        · refine wp_bi (q := 36) dX3_apart_34 rfl (by decide) (by decide) (wp_iret dX3_apart_36 rfl ?_)
          refine ⟨rI ?_, by rw [if_neg (by omega)]; exact hS, fun _ _ => rfl⟩
          unfold spapart
          (repeat' split) <;> omega
    · refine wp_ic (q := 23) dX3_apart_22 rfl (by decide) (by decide) (wp_iret dX3_apart_23 rfl ?_)
      refine ⟨rI ?_, by rw [if_neg (by omega)]; exact hS, fun _ _ => rfl⟩
      unfold spapart
      (repeat' split) <;> omega
def spCup (sz : Nat) (x : Int) : Int := if x = 2 ∨ x = 4 ∨ x = 8 then sz else -2
theorem cs_cup (d : Nat) {h : List mC} {k n sz : Nat} {ch ro pl wi : List Int} (hS : CS h k n sz ch ro pl wi) {x : Int} : Ct (d + 4) mX3_cup [mR k, mI x] h (fun r9 h9 => r9 = some (mI (spCup sz x)) ∧ (if x = 2 ∨ x = 4 ∨ x = 8 then CS h9 k n x.toNat ch ro (List.replicate 8 8) (List.replicate 8 8) else CS h9 k n sz ch ro pl wi) ∧ ∀ j : Nat, (j < k ∨ k + 16 ≤ j) → h9[j]? = h[j]?) := by
  obtain ⟨li, we, od, tsz, tpl, twi, tod, ln, rw, rs, lo, hU, hvr, hli, hwe, hlr, hlw, hf0⟩ := id hS
  obtain ⟨hC, hR, hB, hT, hL, hp⟩ := id hU
  obtain ⟨c0, c1⟩ := id hC
  obtain ⟨r0, r1, r2, r3, r4, r5⟩ := id hR
  obtain ⟨b0, b1, b2, b3, b4, b5, b6, b7, b8⟩ := id hB
  obtain ⟨t0, t1, t2, t3, t4, t5, t6, t7, t8⟩ := id hT
  obtain ⟨a0, a1, a2, a3, a4, a5, a6, a7, a8, a9⟩ := id hL
  show Wp _ mX3_cup 0 [mR k, mI x, mU] [] h (0, 0) _
  refine wp_il1 (q := 1) dX3_cup_0 rfl (wp_ic (q := 2) dX3_cup_1 rfl (by decide) (by decide) (wp_icmp_eq (t := 19) (q := 5) dX3_cup_2 rfl rfl (fun c2 => ?_) (fun c2 => ?_)))
  · refine wp_al0 (q := 20) dX3_cup_19 rfl (wp_getf (q := 23) dX3_cup_20 rfl f17 c0 c1 rfl (fun z => nomatch z) (wp_getf (q := 26) dX3_cup_23 rfl f6 b0 b1 rfl (fun z => nomatch z) (wp_is2 (q := 27) dX3_cup_26 rfl rfl (wp_al0 (q := 28) dX3_cup_27 rfl (wp_getf (q := 31) dX3_cup_28 rfl f17 c0 c1 rfl (fun z => nomatch z) (wp_il1 (q := 32) dX3_cup_31 rfl (wp_v1 (q := 35) dX3_cup_32 rfl q22 (Nat.le_of_ble_eq_true rfl) rfl b0 b1 rfl rfl (cr_resize (d := d) hB (sz' := x) (by omega)) (fun r9 h9 e9 => ?_))))))))
    obtain ⟨rfl, hB9, hf10⟩ := e9
    rw [show x = ((x.toNat : Nat) : Int) by omega] at hB9
    have hU := hU.fBr hB9 hf10
    obtain ⟨hC, hR, hB, hT, hL, hp⟩ := id hU
    obtain ⟨c0, c1⟩ := id hC
    obtain ⟨r0, r1, r2, r3, r4, r5⟩ := id hR
    obtain ⟨b0, b1, b2, b3, b4, b5, b6, b7, b8⟩ := id hB
    obtain ⟨t0, t1, t2, t3, t4, t5, t6, t7, t8⟩ := id hT
    obtain ⟨a0, a1, a2, a3, a4, a5, a6, a7, a8, a9⟩ := id hL
    show Wp _ _ _ _ [] _ _ _
    refine wp_al0 (q := 36) dX3_cup_35 rfl (wp_ic (q := 37) dX3_cup_36 rfl (by decide) (by decide) (wp_putf (q := 40) dX3_cup_37 rfl f20 c0 c1 (Nat.le_of_ble_eq_true rfl) (Or.inl rfl) (fun z => absurd z (by decide)) (wp_il2 (q := 41) dX3_cup_40 rfl (wp_iret dX3_cup_41 rfl ?_))))
    refine ⟨rI (by unfold spCup; rw [if_pos (by omega)]), ?_, fun j hj => by rw [fr_set (by omega), hf10 j (by omega)]⟩
    rw [if_pos (by omega)]
    exact ⟨0, we, od, tsz, tpl, twi, tod, ln, rw, rs, lo, hU.fCu, hvr, Or.inl rfl, hwe, fun z => absurd z (by decide), fun z => absurd z (by decide), trivial⟩
  · refine wp_il1 (q := 6) dX3_cup_5 rfl (wp_ic (q := 7) dX3_cup_6 rfl (by decide) (by decide) (wp_icmp_eq (t := 19) (q := 10) dX3_cup_7 rfl rfl (fun c7 => ?_) (fun c7 => ?_)))
    · refine wp_al0 (q := 20) dX3_cup_19 rfl (wp_getf (q := 23) dX3_cup_20 rfl f17 c0 c1 rfl (fun z => nomatch z) (wp_getf (q := 26) dX3_cup_23 rfl f6 b0 b1 rfl (fun z => nomatch z) (wp_is2 (q := 27) dX3_cup_26 rfl rfl (wp_al0 (q := 28) dX3_cup_27 rfl (wp_getf (q := 31) dX3_cup_28 rfl f17 c0 c1 rfl (fun z => nomatch z) (wp_il1 (q := 32) dX3_cup_31 rfl (wp_v1 (q := 35) dX3_cup_32 rfl q22 (Nat.le_of_ble_eq_true rfl) rfl b0 b1 rfl rfl (cr_resize (d := d) hB (sz' := x) (by omega)) (fun r9 h9 e9 => ?_))))))))
      obtain ⟨rfl, hB9, hf10⟩ := e9
      rw [show x = ((x.toNat : Nat) : Int) by omega] at hB9
      have hU := hU.fBr hB9 hf10
      obtain ⟨hC, hR, hB, hT, hL, hp⟩ := id hU
      obtain ⟨c0, c1⟩ := id hC
      obtain ⟨r0, r1, r2, r3, r4, r5⟩ := id hR
      obtain ⟨b0, b1, b2, b3, b4, b5, b6, b7, b8⟩ := id hB
      obtain ⟨t0, t1, t2, t3, t4, t5, t6, t7, t8⟩ := id hT
      obtain ⟨a0, a1, a2, a3, a4, a5, a6, a7, a8, a9⟩ := id hL
      show Wp _ _ _ _ [] _ _ _
      refine wp_al0 (q := 36) dX3_cup_35 rfl (wp_ic (q := 37) dX3_cup_36 rfl (by decide) (by decide) (wp_putf (q := 40) dX3_cup_37 rfl f20 c0 c1 (Nat.le_of_ble_eq_true rfl) (Or.inl rfl) (fun z => absurd z (by decide)) (wp_il2 (q := 41) dX3_cup_40 rfl (wp_iret dX3_cup_41 rfl ?_))))
      refine ⟨rI (by unfold spCup; rw [if_pos (by omega)]), ?_, fun j hj => by rw [fr_set (by omega), hf10 j (by omega)]⟩
      rw [if_pos (by omega)]
      exact ⟨0, we, od, tsz, tpl, twi, tod, ln, rw, rs, lo, hU.fCu, hvr, Or.inl rfl, hwe, fun z => absurd z (by decide), fun z => absurd z (by decide), trivial⟩
    · refine wp_il1 (q := 11) dX3_cup_10 rfl (wp_bi (q := 13) dX3_cup_11 rfl (by decide) (by decide) (wp_icmp_eq (t := 19) (q := 16) dX3_cup_13 rfl rfl (fun c13 => ?_) (fun c13 => ?_)))
      · refine wp_al0 (q := 20) dX3_cup_19 rfl (wp_getf (q := 23) dX3_cup_20 rfl f17 c0 c1 rfl (fun z => nomatch z) (wp_getf (q := 26) dX3_cup_23 rfl f6 b0 b1 rfl (fun z => nomatch z) (wp_is2 (q := 27) dX3_cup_26 rfl rfl (wp_al0 (q := 28) dX3_cup_27 rfl (wp_getf (q := 31) dX3_cup_28 rfl f17 c0 c1 rfl (fun z => nomatch z) (wp_il1 (q := 32) dX3_cup_31 rfl (wp_v1 (q := 35) dX3_cup_32 rfl q22 (Nat.le_of_ble_eq_true rfl) rfl b0 b1 rfl rfl (cr_resize (d := d) hB (sz' := x) (by omega)) (fun r9 h9 e9 => ?_))))))))
        obtain ⟨rfl, hB9, hf10⟩ := e9
        rw [show x = ((x.toNat : Nat) : Int) by omega] at hB9
        have hU := hU.fBr hB9 hf10
        obtain ⟨hC, hR, hB, hT, hL, hp⟩ := id hU
        obtain ⟨c0, c1⟩ := id hC
        obtain ⟨r0, r1, r2, r3, r4, r5⟩ := id hR
        obtain ⟨b0, b1, b2, b3, b4, b5, b6, b7, b8⟩ := id hB
        obtain ⟨t0, t1, t2, t3, t4, t5, t6, t7, t8⟩ := id hT
        obtain ⟨a0, a1, a2, a3, a4, a5, a6, a7, a8, a9⟩ := id hL
        show Wp _ _ _ _ [] _ _ _
        refine wp_al0 (q := 36) dX3_cup_35 rfl (wp_ic (q := 37) dX3_cup_36 rfl (by decide) (by decide) (wp_putf (q := 40) dX3_cup_37 rfl f20 c0 c1 (Nat.le_of_ble_eq_true rfl) (Or.inl rfl) (fun z => absurd z (by decide)) (wp_il2 (q := 41) dX3_cup_40 rfl (wp_iret dX3_cup_41 rfl ?_))))
        refine ⟨rI (by unfold spCup; rw [if_pos (by omega)]), ?_, fun j hj => by rw [fr_set (by omega), hf10 j (by omega)]⟩
        rw [if_pos (by omega)]
        exact ⟨0, we, od, tsz, tpl, twi, tod, ln, rw, rs, lo, hU.fCu, hvr, Or.inl rfl, hwe, fun z => absurd z (by decide), fun z => absurd z (by decide), trivial⟩
      · refine wp_bi (q := 18) dX3_cup_16 rfl (by decide) (by decide) (wp_iret dX3_cup_18 rfl ?_)
        exact ⟨rI (by unfold spCup; rw [if_neg (by omega)]), by rw [if_neg (by omega)]; exact hS, fun _ _ => rfl⟩
/-- a place is told for a player: what is held there -/
def inn (v : Int) : Int := if v = -9 then 8 else v
def spPut (n sz : Nat) (pl : List Int) (x v : Int) : Int := if ¬ (0 ≤ x ∧ x < sz) ∨ (v ≠ -9 ∧ ¬ (0 ≤ v ∧ v < n)) then -1 else if plO pl sz (inn v) ≠ -1 ∧ plO pl sz (inn v) ≠ x then -3 else tld (rd8 pl x)
theorem cs_put (d : Nat) {h : List mC} {k n sz : Nat} {ch ro pl wi : List Int} (hS : CS h k n sz ch ro pl wi) {x v : Int} (hn : n ≤ 8) : Ct (d + 2) mX3_put [mR k, mI x, mI v] h (fun r9 h9 => r9 = some (mI (spPut n sz pl x v)) ∧ (if (0 ≤ x ∧ x < sz) ∧ (v = -9 ∨ (0 ≤ v ∧ v < n)) ∧ (plO pl sz (inn v) = -1 ∨ plO pl sz (inn v) = x) then CS h9 k n sz ch ro (sI pl x (inn v)) (List.replicate 8 8) else CS h9 k n sz ch ro pl wi) ∧ ∀ j : Nat, (j < k ∨ k + 16 ≤ j) → h9[j]? = h[j]?) := by
  obtain ⟨li, we, od, tsz, tpl, twi, tod, ln, rw, rs, lo, hU, hvr, hli, hwe, hlr, hlw, hf0⟩ := id hS
  obtain ⟨hC, hR, hB, hT, hL, hp⟩ := id hU
  obtain ⟨c0, c1⟩ := id hC
  obtain ⟨r0, r1, r2, r3, r4, r5⟩ := id hR
  obtain ⟨b0, b1, b2, b3, b4, b5, b6, b7, b8⟩ := id hB
  obtain ⟨t0, t1, t2, t3, t4, t5, t6, t7, t8⟩ := id hT
  obtain ⟨a0, a1, a2, a3, a4, a5, a6, a7, a8, a9⟩ := id hL
  show Wp _ mX3_put 0 [mR k, mI x, mI v, mU, mU, mU] [] h (0, 0) _
  refine wp_al0 (q := 1) dX3_put_0 rfl (wp_getf (q := 4) dX3_put_1 rfl f17 c0 c1 rfl (fun z => nomatch z) (wp_il1 (q := 5) dX3_put_4 rfl (wp_v1I (q := 8) dX3_put_5 rfl q24 (Nat.le_of_ble_eq_true rfl) rfl b0 b1 rfl rfl (ct_hasPlace (d + 1) hB) (wp_ifb_eq (t := 28) (q := 11) dX3_put_8 rfl rfl (fun c8 => ?_) (fun c8 => ?_)))))
  · refine wp_ic (q := 29) dX3_put_28 rfl (by decide) (by decide) (wp_iret dX3_put_29 rfl ?_)
    refine ⟨rI ?_, by rw [if_neg (by omega)]; exact hS, fun _ _ => rfl⟩
    unfold spPut
    (repeat' split) <;> omega
  · refine wp_il2 (q := 12) dX3_put_11 rfl (wp_bi (q := 14) dX3_put_12 rfl (by decide) (by decide) (wp_icmp_eq (t := 30) (q := 17) dX3_put_14 rfl rfl (fun c14 => ?_) (fun c14 => ?_)))
    · refine wp_il2 (q := 31) dX3_put_30 rfl (wp_bi (q := 33) dX3_put_31 rfl (by decide) (by decide) (wp_icmp_ne (t := 41) (q := 36) dX3_put_33 rfl rfl (fun c33 => ?_) (fun c33 => ?_)))
      · refine wp_il2 (q := 42) dX3_put_41 rfl ?_
        have hin : inn v = 8 ∨ inn v = v := by unfold inn; split <;> omega
        first
          | (rw [show (mI 8 : mV) = mI (inn v) by unfold inn; rw [if_pos c33]])
          | (rw [show mI v = mI (inn v) by unfold inn; rw [if_neg c33]])
        refine wp_is3 (q := 43) dX3_put_42 rfl rfl (wp_al0 (q := 44) dX3_put_43 rfl (wp_getf (q := 47) dX3_put_44 rfl f17 c0 c1 rfl (fun z => nomatch z) (wp_il3 (q := 48) dX3_put_47 rfl (wp_v1I (q := 51) dX3_put_48 rfl q25 (Nat.le_of_ble_eq_true rfl) rfl b0 b1 rfl rfl (ct_placeOf d hB (v := inn v)) (wp_is4 (q := 53) dX3_put_51 rfl rfl (wp_il4 (q := 55) dX3_put_53 rfl (wp_ic (q := 56) dX3_put_55 rfl (by decide) (by decide) (wp_icmp_eq (t := 68) (q := 59) dX3_put_56 rfl rfl (fun c56 => ?_) (fun c56 => ?_)))))))))
        · refine wp_al0 (q := 69) dX3_put_68 rfl (wp_getf (q := 72) dX3_put_69 rfl f17 c0 c1 rfl (fun z => nomatch z) (wp_il1 (q := 73) dX3_put_72 rfl (wp_v1I (q := 76) dX3_put_73 rfl q27 (Nat.le_of_ble_eq_true rfl) rfl b0 b1 rfl rfl (ct_playerAt (d + 1) hB) (wp_is5 (q := 78) dX3_put_76 rfl rfl (wp_al0 (q := 79) dX3_put_78 rfl (wp_getf (q := 82) dX3_put_79 rfl f17 c0 c1 rfl (fun z => nomatch z) (wp_il1 (q := 83) dX3_put_82 rfl (wp_il3 (q := 84) dX3_put_83 rfl (wp_v2 (q := 87) dX3_put_84 rfl q28 (Nat.le_of_ble_eq_true rfl) rfl b0 b1 rfl rfl (cr_setPlace hB (by omega) (by omega)) (fun r9 h9 e9 => ?_))))))))))
          obtain ⟨rfl, hB9, hf10⟩ := e9
          have hU := hU.fBr hB9 hf10
          obtain ⟨hC, hR, hB, hT, hL, hp⟩ := id hU
          obtain ⟨c0, c1⟩ := id hC
          obtain ⟨r0, r1, r2, r3, r4, r5⟩ := id hR
          obtain ⟨b0, b1, b2, b3, b4, b5, b6, b7, b8⟩ := id hB
          obtain ⟨t0, t1, t2, t3, t4, t5, t6, t7, t8⟩ := id hT
          obtain ⟨a0, a1, a2, a3, a4, a5, a6, a7, a8, a9⟩ := id hL
          show Wp _ _ _ _ [] _ _ _
          refine wp_al0 (q := 88) dX3_put_87 rfl (wp_getf (q := 91) dX3_put_88 rfl f17 c0 c1 rfl (fun z => nomatch z) (wp_v0 (q := 94) dX3_put_91 rfl q29 (Nat.le_of_ble_eq_true rfl) rfl b0 b1 rfl rfl (cr_openAll hB) (fun r9 h9 e9 => ?_)))
          obtain ⟨rfl, hB9, hf11⟩ := e9
          have hU := hU.fBr hB9 hf11
          obtain ⟨hC, hR, hB, hT, hL, hp⟩ := id hU
          obtain ⟨c0, c1⟩ := id hC
          obtain ⟨r0, r1, r2, r3, r4, r5⟩ := id hR
          obtain ⟨b0, b1, b2, b3, b4, b5, b6, b7, b8⟩ := id hB
          obtain ⟨t0, t1, t2, t3, t4, t5, t6, t7, t8⟩ := id hT
          obtain ⟨a0, a1, a2, a3, a4, a5, a6, a7, a8, a9⟩ := id hL
          show Wp _ _ _ _ [] _ _ _
          refine wp_il5 (q := 96) dX3_put_94 rfl (wp_s1I (q := 99) dX3_put_96 rfl q30 (Nat.le_of_ble_eq_true rfl) rfl rfl rfl (ct_told (d + 1)) (wp_iret dX3_put_99 rfl ?_))
          refine ⟨rI ?_, ?_, fun j hj => by rw [hf11 j (by omega), hf10 j (by omega)]⟩
          · unfold spPut
            rw [if_neg (by omega), if_neg (by omega)]
          · rw [if_pos (by omega)]
            exact ⟨li, we, od, tsz, tpl, twi, tod, ln, rw, rs, lo, hU, hvr, hli, hwe, hlr, hlw, trivial⟩
        · refine wp_il4 (q := 61) dX3_put_59 rfl (wp_il1 (q := 62) dX3_put_61 rfl (wp_icmp_eq (t := 68) (q := 65) dX3_put_62 rfl rfl (fun c62 => ?_) (fun c62 => ?_)))
          · refine wp_al0 (q := 69) dX3_put_68 rfl (wp_getf (q := 72) dX3_put_69 rfl f17 c0 c1 rfl (fun z => nomatch z) (wp_il1 (q := 73) dX3_put_72 rfl (wp_v1I (q := 76) dX3_put_73 rfl q27 (Nat.le_of_ble_eq_true rfl) rfl b0 b1 rfl rfl (ct_playerAt (d + 1) hB) (wp_is5 (q := 78) dX3_put_76 rfl rfl (wp_al0 (q := 79) dX3_put_78 rfl (wp_getf (q := 82) dX3_put_79 rfl f17 c0 c1 rfl (fun z => nomatch z) (wp_il1 (q := 83) dX3_put_82 rfl (wp_il3 (q := 84) dX3_put_83 rfl (wp_v2 (q := 87) dX3_put_84 rfl q28 (Nat.le_of_ble_eq_true rfl) rfl b0 b1 rfl rfl (cr_setPlace hB (by omega) (by omega)) (fun r9 h9 e9 => ?_))))))))))
            obtain ⟨rfl, hB9, hf10⟩ := e9
            have hU := hU.fBr hB9 hf10
            obtain ⟨hC, hR, hB, hT, hL, hp⟩ := id hU
            obtain ⟨c0, c1⟩ := id hC
            obtain ⟨r0, r1, r2, r3, r4, r5⟩ := id hR
            obtain ⟨b0, b1, b2, b3, b4, b5, b6, b7, b8⟩ := id hB
            obtain ⟨t0, t1, t2, t3, t4, t5, t6, t7, t8⟩ := id hT
            obtain ⟨a0, a1, a2, a3, a4, a5, a6, a7, a8, a9⟩ := id hL
            show Wp _ _ _ _ [] _ _ _
            refine wp_al0 (q := 88) dX3_put_87 rfl (wp_getf (q := 91) dX3_put_88 rfl f17 c0 c1 rfl (fun z => nomatch z) (wp_v0 (q := 94) dX3_put_91 rfl q29 (Nat.le_of_ble_eq_true rfl) rfl b0 b1 rfl rfl (cr_openAll hB) (fun r9 h9 e9 => ?_)))
            obtain ⟨rfl, hB9, hf11⟩ := e9
            have hU := hU.fBr hB9 hf11
            obtain ⟨hC, hR, hB, hT, hL, hp⟩ := id hU
            obtain ⟨c0, c1⟩ := id hC
            obtain ⟨r0, r1, r2, r3, r4, r5⟩ := id hR
            obtain ⟨b0, b1, b2, b3, b4, b5, b6, b7, b8⟩ := id hB
            obtain ⟨t0, t1, t2, t3, t4, t5, t6, t7, t8⟩ := id hT
            obtain ⟨a0, a1, a2, a3, a4, a5, a6, a7, a8, a9⟩ := id hL
            show Wp _ _ _ _ [] _ _ _
            refine wp_il5 (q := 96) dX3_put_94 rfl (wp_s1I (q := 99) dX3_put_96 rfl q30 (Nat.le_of_ble_eq_true rfl) rfl rfl rfl (ct_told (d + 1)) (wp_iret dX3_put_99 rfl ?_))
            refine ⟨rI ?_, ?_, fun j hj => by rw [hf11 j (by omega), hf10 j (by omega)]⟩
            · unfold spPut
              rw [if_neg (by omega), if_neg (by omega)]
            · rw [if_pos (by omega)]
              exact ⟨li, we, od, tsz, tpl, twi, tod, ln, rw, rs, lo, hU, hvr, hli, hwe, hlr, hlw, trivial⟩
          · refine wp_bi (q := 67) dX3_put_65 rfl (by decide) (by decide) (wp_iret dX3_put_67 rfl ?_)
            refine ⟨rI ?_, by rw [if_neg (by omega)]; exact hS, fun _ _ => rfl⟩
            unfold spPut
            (repeat' split) <;> omega
      · refine wp_bi (q := 38) dX3_put_36 rfl (by decide) (by decide) (wp_goto (q := 42) dX3_put_38 rfl ?_)
        have hin : inn v = 8 ∨ inn v = v := by unfold inn; split <;> omega
        first
          | (rw [show (mI 8 : mV) = mI (inn v) by unfold inn; rw [if_pos c33]])
          | (rw [show mI v = mI (inn v) by unfold inn; rw [if_neg c33]])
        refine wp_is3 (q := 43) dX3_put_42 rfl rfl (wp_al0 (q := 44) dX3_put_43 rfl (wp_getf (q := 47) dX3_put_44 rfl f17 c0 c1 rfl (fun z => nomatch z) (wp_il3 (q := 48) dX3_put_47 rfl (wp_v1I (q := 51) dX3_put_48 rfl q25 (Nat.le_of_ble_eq_true rfl) rfl b0 b1 rfl rfl (ct_placeOf d hB (v := inn v)) (wp_is4 (q := 53) dX3_put_51 rfl rfl (wp_il4 (q := 55) dX3_put_53 rfl (wp_ic (q := 56) dX3_put_55 rfl (by decide) (by decide) (wp_icmp_eq (t := 68) (q := 59) dX3_put_56 rfl rfl (fun c56 => ?_) (fun c56 => ?_)))))))))
        · refine wp_al0 (q := 69) dX3_put_68 rfl (wp_getf (q := 72) dX3_put_69 rfl f17 c0 c1 rfl (fun z => nomatch z) (wp_il1 (q := 73) dX3_put_72 rfl (wp_v1I (q := 76) dX3_put_73 rfl q27 (Nat.le_of_ble_eq_true rfl) rfl b0 b1 rfl rfl (ct_playerAt (d + 1) hB) (wp_is5 (q := 78) dX3_put_76 rfl rfl (wp_al0 (q := 79) dX3_put_78 rfl (wp_getf (q := 82) dX3_put_79 rfl f17 c0 c1 rfl (fun z => nomatch z) (wp_il1 (q := 83) dX3_put_82 rfl (wp_il3 (q := 84) dX3_put_83 rfl (wp_v2 (q := 87) dX3_put_84 rfl q28 (Nat.le_of_ble_eq_true rfl) rfl b0 b1 rfl rfl (cr_setPlace hB (by omega) (by omega)) (fun r9 h9 e9 => ?_))))))))))
          obtain ⟨rfl, hB9, hf10⟩ := e9
          have hU := hU.fBr hB9 hf10
          obtain ⟨hC, hR, hB, hT, hL, hp⟩ := id hU
          obtain ⟨c0, c1⟩ := id hC
          obtain ⟨r0, r1, r2, r3, r4, r5⟩ := id hR
          obtain ⟨b0, b1, b2, b3, b4, b5, b6, b7, b8⟩ := id hB
          obtain ⟨t0, t1, t2, t3, t4, t5, t6, t7, t8⟩ := id hT
          obtain ⟨a0, a1, a2, a3, a4, a5, a6, a7, a8, a9⟩ := id hL
          show Wp _ _ _ _ [] _ _ _
          refine wp_al0 (q := 88) dX3_put_87 rfl (wp_getf (q := 91) dX3_put_88 rfl f17 c0 c1 rfl (fun z => nomatch z) (wp_v0 (q := 94) dX3_put_91 rfl q29 (Nat.le_of_ble_eq_true rfl) rfl b0 b1 rfl rfl (cr_openAll hB) (fun r9 h9 e9 => ?_)))
          obtain ⟨rfl, hB9, hf11⟩ := e9
          have hU := hU.fBr hB9 hf11
          obtain ⟨hC, hR, hB, hT, hL, hp⟩ := id hU
          obtain ⟨c0, c1⟩ := id hC
          obtain ⟨r0, r1, r2, r3, r4, r5⟩ := id hR
          obtain ⟨b0, b1, b2, b3, b4, b5, b6, b7, b8⟩ := id hB
          obtain ⟨t0, t1, t2, t3, t4, t5, t6, t7, t8⟩ := id hT
          obtain ⟨a0, a1, a2, a3, a4, a5, a6, a7, a8, a9⟩ := id hL
          show Wp _ _ _ _ [] _ _ _
          refine wp_il5 (q := 96) dX3_put_94 rfl (wp_s1I (q := 99) dX3_put_96 rfl q30 (Nat.le_of_ble_eq_true rfl) rfl rfl rfl (ct_told (d + 1)) (wp_iret dX3_put_99 rfl ?_))
          refine ⟨rI ?_, ?_, fun j hj => by rw [hf11 j (by omega), hf10 j (by omega)]⟩
          · unfold spPut
            rw [if_neg (by omega), if_neg (by omega)]
          · rw [if_pos (by omega)]
            exact ⟨li, we, od, tsz, tpl, twi, tod, ln, rw, rs, lo, hU, hvr, hli, hwe, hlr, hlw, trivial⟩
        · refine wp_il4 (q := 61) dX3_put_59 rfl (wp_il1 (q := 62) dX3_put_61 rfl (wp_icmp_eq (t := 68) (q := 65) dX3_put_62 rfl rfl (fun c62 => ?_) (fun c62 => ?_)))
          · refine wp_al0 (q := 69) dX3_put_68 rfl (wp_getf (q := 72) dX3_put_69 rfl f17 c0 c1 rfl (fun z => nomatch z) (wp_il1 (q := 73) dX3_put_72 rfl (wp_v1I (q := 76) dX3_put_73 rfl q27 (Nat.le_of_ble_eq_true rfl) rfl b0 b1 rfl rfl (ct_playerAt (d + 1) hB) (wp_is5 (q := 78) dX3_put_76 rfl rfl (wp_al0 (q := 79) dX3_put_78 rfl (wp_getf (q := 82) dX3_put_79 rfl f17 c0 c1 rfl (fun z => nomatch z) (wp_il1 (q := 83) dX3_put_82 rfl (wp_il3 (q := 84) dX3_put_83 rfl (wp_v2 (q := 87) dX3_put_84 rfl q28 (Nat.le_of_ble_eq_true rfl) rfl b0 b1 rfl rfl (cr_setPlace hB (by omega) (by omega)) (fun r9 h9 e9 => ?_))))))))))
            obtain ⟨rfl, hB9, hf10⟩ := e9
            have hU := hU.fBr hB9 hf10
            obtain ⟨hC, hR, hB, hT, hL, hp⟩ := id hU
            obtain ⟨c0, c1⟩ := id hC
            obtain ⟨r0, r1, r2, r3, r4, r5⟩ := id hR
            obtain ⟨b0, b1, b2, b3, b4, b5, b6, b7, b8⟩ := id hB
            obtain ⟨t0, t1, t2, t3, t4, t5, t6, t7, t8⟩ := id hT
            obtain ⟨a0, a1, a2, a3, a4, a5, a6, a7, a8, a9⟩ := id hL
            show Wp _ _ _ _ [] _ _ _
            refine wp_al0 (q := 88) dX3_put_87 rfl (wp_getf (q := 91) dX3_put_88 rfl f17 c0 c1 rfl (fun z => nomatch z) (wp_v0 (q := 94) dX3_put_91 rfl q29 (Nat.le_of_ble_eq_true rfl) rfl b0 b1 rfl rfl (cr_openAll hB) (fun r9 h9 e9 => ?_)))
            obtain ⟨rfl, hB9, hf11⟩ := e9
            have hU := hU.fBr hB9 hf11
            obtain ⟨hC, hR, hB, hT, hL, hp⟩ := id hU
            obtain ⟨c0, c1⟩ := id hC
            obtain ⟨r0, r1, r2, r3, r4, r5⟩ := id hR
            obtain ⟨b0, b1, b2, b3, b4, b5, b6, b7, b8⟩ := id hB
            obtain ⟨t0, t1, t2, t3, t4, t5, t6, t7, t8⟩ := id hT
            obtain ⟨a0, a1, a2, a3, a4, a5, a6, a7, a8, a9⟩ := id hL
            show Wp _ _ _ _ [] _ _ _
            refine wp_il5 (q := 96) dX3_put_94 rfl (wp_s1I (q := 99) dX3_put_96 rfl q30 (Nat.le_of_ble_eq_true rfl) rfl rfl rfl (ct_told (d + 1)) (wp_iret dX3_put_99 rfl ?_))
            refine ⟨rI ?_, ?_, fun j hj => by rw [hf11 j (by omega), hf10 j (by omega)]⟩
            · unfold spPut
              rw [if_neg (by omega), if_neg (by omega)]
            · rw [if_pos (by omega)]
              exact ⟨li, we, od, tsz, tpl, twi, tod, ln, rw, rs, lo, hU, hvr, hli, hwe, hlr, hlw, trivial⟩
          · refine wp_bi (q := 67) dX3_put_65 rfl (by decide) (by decide) (wp_iret dX3_put_67 rfl ?_)
            refine ⟨rI ?_, by rw [if_neg (by omega)]; exact hS, fun _ _ => rfl⟩
            unfold spPut
            (repeat' split) <;> omega
    · refine wp_al0 (q := 18) dX3_put_17 rfl (wp_getf (q := 21) dX3_put_18 rfl f16 c0 c1 rfl (fun z => nomatch z) (wp_il2 (q := 22) dX3_put_21 rfl (wp_v1I (q := 25) dX3_put_22 rfl q14 (Nat.le_of_ble_eq_true rfl) rfl r0 r1 rfl rfl (ct_Rhas (d + 1) hR) (wp_ifb_ne (t := 30) (q := 28) dX3_put_25 rfl rfl (fun c25 => ?_) (fun c25 => ?_)))))
      · refine wp_il2 (q := 31) dX3_put_30 rfl (wp_bi (q := 33) dX3_put_31 rfl (by decide) (by decide) (wp_icmp_ne (t := 41) (q := 36) dX3_put_33 rfl rfl (fun c33 => ?_) (fun c33 => ?_)))
        · refine wp_il2 (q := 42) dX3_put_41 rfl ?_
          have hin : inn v = 8 ∨ inn v = v := by unfold inn; split <;> omega
          first
            | (rw [show (mI 8 : mV) = mI (inn v) by unfold inn; rw [if_pos c33]])
            | (rw [show mI v = mI (inn v) by unfold inn; rw [if_neg c33]])
          refine wp_is3 (q := 43) dX3_put_42 rfl rfl (wp_al0 (q := 44) dX3_put_43 rfl (wp_getf (q := 47) dX3_put_44 rfl f17 c0 c1 rfl (fun z => nomatch z) (wp_il3 (q := 48) dX3_put_47 rfl (wp_v1I (q := 51) dX3_put_48 rfl q25 (Nat.le_of_ble_eq_true rfl) rfl b0 b1 rfl rfl (ct_placeOf d hB (v := inn v)) (wp_is4 (q := 53) dX3_put_51 rfl rfl (wp_il4 (q := 55) dX3_put_53 rfl (wp_ic (q := 56) dX3_put_55 rfl (by decide) (by decide) (wp_icmp_eq (t := 68) (q := 59) dX3_put_56 rfl rfl (fun c56 => ?_) (fun c56 => ?_)))))))))
          · refine wp_al0 (q := 69) dX3_put_68 rfl (wp_getf (q := 72) dX3_put_69 rfl f17 c0 c1 rfl (fun z => nomatch z) (wp_il1 (q := 73) dX3_put_72 rfl (wp_v1I (q := 76) dX3_put_73 rfl q27 (Nat.le_of_ble_eq_true rfl) rfl b0 b1 rfl rfl (ct_playerAt (d + 1) hB) (wp_is5 (q := 78) dX3_put_76 rfl rfl (wp_al0 (q := 79) dX3_put_78 rfl (wp_getf (q := 82) dX3_put_79 rfl f17 c0 c1 rfl (fun z => nomatch z) (wp_il1 (q := 83) dX3_put_82 rfl (wp_il3 (q := 84) dX3_put_83 rfl (wp_v2 (q := 87) dX3_put_84 rfl q28 (Nat.le_of_ble_eq_true rfl) rfl b0 b1 rfl rfl (cr_setPlace hB (by omega) (by omega)) (fun r9 h9 e9 => ?_))))))))))
            obtain ⟨rfl, hB9, hf10⟩ := e9
            have hU := hU.fBr hB9 hf10
            obtain ⟨hC, hR, hB, hT, hL, hp⟩ := id hU
            obtain ⟨c0, c1⟩ := id hC
            obtain ⟨r0, r1, r2, r3, r4, r5⟩ := id hR
            obtain ⟨b0, b1, b2, b3, b4, b5, b6, b7, b8⟩ := id hB
            obtain ⟨t0, t1, t2, t3, t4, t5, t6, t7, t8⟩ := id hT
            obtain ⟨a0, a1, a2, a3, a4, a5, a6, a7, a8, a9⟩ := id hL
            show Wp _ _ _ _ [] _ _ _
            refine wp_al0 (q := 88) dX3_put_87 rfl (wp_getf (q := 91) dX3_put_88 rfl f17 c0 c1 rfl (fun z => nomatch z) (wp_v0 (q := 94) dX3_put_91 rfl q29 (Nat.le_of_ble_eq_true rfl) rfl b0 b1 rfl rfl (cr_openAll hB) (fun r9 h9 e9 => ?_)))
            obtain ⟨rfl, hB9, hf11⟩ := e9
            have hU := hU.fBr hB9 hf11
            obtain ⟨hC, hR, hB, hT, hL, hp⟩ := id hU
            obtain ⟨c0, c1⟩ := id hC
            obtain ⟨r0, r1, r2, r3, r4, r5⟩ := id hR
            obtain ⟨b0, b1, b2, b3, b4, b5, b6, b7, b8⟩ := id hB
            obtain ⟨t0, t1, t2, t3, t4, t5, t6, t7, t8⟩ := id hT
            obtain ⟨a0, a1, a2, a3, a4, a5, a6, a7, a8, a9⟩ := id hL
            show Wp _ _ _ _ [] _ _ _
            refine wp_il5 (q := 96) dX3_put_94 rfl (wp_s1I (q := 99) dX3_put_96 rfl q30 (Nat.le_of_ble_eq_true rfl) rfl rfl rfl (ct_told (d + 1)) (wp_iret dX3_put_99 rfl ?_))
            refine ⟨rI ?_, ?_, fun j hj => by rw [hf11 j (by omega), hf10 j (by omega)]⟩
            · unfold spPut
              rw [if_neg (by omega), if_neg (by omega)]
            · rw [if_pos (by omega)]
              exact ⟨li, we, od, tsz, tpl, twi, tod, ln, rw, rs, lo, hU, hvr, hli, hwe, hlr, hlw, trivial⟩
          · refine wp_il4 (q := 61) dX3_put_59 rfl (wp_il1 (q := 62) dX3_put_61 rfl (wp_icmp_eq (t := 68) (q := 65) dX3_put_62 rfl rfl (fun c62 => ?_) (fun c62 => ?_)))
            · refine wp_al0 (q := 69) dX3_put_68 rfl (wp_getf (q := 72) dX3_put_69 rfl f17 c0 c1 rfl (fun z => nomatch z) (wp_il1 (q := 73) dX3_put_72 rfl (wp_v1I (q := 76) dX3_put_73 rfl q27 (Nat.le_of_ble_eq_true rfl) rfl b0 b1 rfl rfl (ct_playerAt (d + 1) hB) (wp_is5 (q := 78) dX3_put_76 rfl rfl (wp_al0 (q := 79) dX3_put_78 rfl (wp_getf (q := 82) dX3_put_79 rfl f17 c0 c1 rfl (fun z => nomatch z) (wp_il1 (q := 83) dX3_put_82 rfl (wp_il3 (q := 84) dX3_put_83 rfl (wp_v2 (q := 87) dX3_put_84 rfl q28 (Nat.le_of_ble_eq_true rfl) rfl b0 b1 rfl rfl (cr_setPlace hB (by omega) (by omega)) (fun r9 h9 e9 => ?_))))))))))
              obtain ⟨rfl, hB9, hf10⟩ := e9
              have hU := hU.fBr hB9 hf10
              obtain ⟨hC, hR, hB, hT, hL, hp⟩ := id hU
              obtain ⟨c0, c1⟩ := id hC
              obtain ⟨r0, r1, r2, r3, r4, r5⟩ := id hR
              obtain ⟨b0, b1, b2, b3, b4, b5, b6, b7, b8⟩ := id hB
              obtain ⟨t0, t1, t2, t3, t4, t5, t6, t7, t8⟩ := id hT
              obtain ⟨a0, a1, a2, a3, a4, a5, a6, a7, a8, a9⟩ := id hL
              show Wp _ _ _ _ [] _ _ _
              refine wp_al0 (q := 88) dX3_put_87 rfl (wp_getf (q := 91) dX3_put_88 rfl f17 c0 c1 rfl (fun z => nomatch z) (wp_v0 (q := 94) dX3_put_91 rfl q29 (Nat.le_of_ble_eq_true rfl) rfl b0 b1 rfl rfl (cr_openAll hB) (fun r9 h9 e9 => ?_)))
              obtain ⟨rfl, hB9, hf11⟩ := e9
              have hU := hU.fBr hB9 hf11
              obtain ⟨hC, hR, hB, hT, hL, hp⟩ := id hU
              obtain ⟨c0, c1⟩ := id hC
              obtain ⟨r0, r1, r2, r3, r4, r5⟩ := id hR
              obtain ⟨b0, b1, b2, b3, b4, b5, b6, b7, b8⟩ := id hB
              obtain ⟨t0, t1, t2, t3, t4, t5, t6, t7, t8⟩ := id hT
              obtain ⟨a0, a1, a2, a3, a4, a5, a6, a7, a8, a9⟩ := id hL
              show Wp _ _ _ _ [] _ _ _
              refine wp_il5 (q := 96) dX3_put_94 rfl (wp_s1I (q := 99) dX3_put_96 rfl q30 (Nat.le_of_ble_eq_true rfl) rfl rfl rfl (ct_told (d + 1)) (wp_iret dX3_put_99 rfl ?_))
              refine ⟨rI ?_, ?_, fun j hj => by rw [hf11 j (by omega), hf10 j (by omega)]⟩
              · unfold spPut
                rw [if_neg (by omega), if_neg (by omega)]
              · rw [if_pos (by omega)]
                exact ⟨li, we, od, tsz, tpl, twi, tod, ln, rw, rs, lo, hU, hvr, hli, hwe, hlr, hlw, trivial⟩
            · refine wp_bi (q := 67) dX3_put_65 rfl (by decide) (by decide) (wp_iret dX3_put_67 rfl ?_)
              refine ⟨rI ?_, by rw [if_neg (by omega)]; exact hS, fun _ _ => rfl⟩
              unfold spPut
              (repeat' split) <;> omega
        · refine wp_bi (q := 38) dX3_put_36 rfl (by decide) (by decide) (wp_goto (q := 42) dX3_put_38 rfl ?_)
          have hin : inn v = 8 ∨ inn v = v := by unfold inn; split <;> omega
          first
            | (rw [show (mI 8 : mV) = mI (inn v) by unfold inn; rw [if_pos c33]])
            | (rw [show mI v = mI (inn v) by unfold inn; rw [if_neg c33]])
          refine wp_is3 (q := 43) dX3_put_42 rfl rfl (wp_al0 (q := 44) dX3_put_43 rfl (wp_getf (q := 47) dX3_put_44 rfl f17 c0 c1 rfl (fun z => nomatch z) (wp_il3 (q := 48) dX3_put_47 rfl (wp_v1I (q := 51) dX3_put_48 rfl q25 (Nat.le_of_ble_eq_true rfl) rfl b0 b1 rfl rfl (ct_placeOf d hB (v := inn v)) (wp_is4 (q := 53) dX3_put_51 rfl rfl (wp_il4 (q := 55) dX3_put_53 rfl (wp_ic (q := 56) dX3_put_55 rfl (by decide) (by decide) (wp_icmp_eq (t := 68) (q := 59) dX3_put_56 rfl rfl (fun c56 => ?_) (fun c56 => ?_)))))))))
          · refine wp_al0 (q := 69) dX3_put_68 rfl (wp_getf (q := 72) dX3_put_69 rfl f17 c0 c1 rfl (fun z => nomatch z) (wp_il1 (q := 73) dX3_put_72 rfl (wp_v1I (q := 76) dX3_put_73 rfl q27 (Nat.le_of_ble_eq_true rfl) rfl b0 b1 rfl rfl (ct_playerAt (d + 1) hB) (wp_is5 (q := 78) dX3_put_76 rfl rfl (wp_al0 (q := 79) dX3_put_78 rfl (wp_getf (q := 82) dX3_put_79 rfl f17 c0 c1 rfl (fun z => nomatch z) (wp_il1 (q := 83) dX3_put_82 rfl (wp_il3 (q := 84) dX3_put_83 rfl (wp_v2 (q := 87) dX3_put_84 rfl q28 (Nat.le_of_ble_eq_true rfl) rfl b0 b1 rfl rfl (cr_setPlace hB (by omega) (by omega)) (fun r9 h9 e9 => ?_))))))))))
            obtain ⟨rfl, hB9, hf10⟩ := e9
            have hU := hU.fBr hB9 hf10
            obtain ⟨hC, hR, hB, hT, hL, hp⟩ := id hU
            obtain ⟨c0, c1⟩ := id hC
            obtain ⟨r0, r1, r2, r3, r4, r5⟩ := id hR
            obtain ⟨b0, b1, b2, b3, b4, b5, b6, b7, b8⟩ := id hB
            obtain ⟨t0, t1, t2, t3, t4, t5, t6, t7, t8⟩ := id hT
            obtain ⟨a0, a1, a2, a3, a4, a5, a6, a7, a8, a9⟩ := id hL
            show Wp _ _ _ _ [] _ _ _
            refine wp_al0 (q := 88) dX3_put_87 rfl (wp_getf (q := 91) dX3_put_88 rfl f17 c0 c1 rfl (fun z => nomatch z) (wp_v0 (q := 94) dX3_put_91 rfl q29 (Nat.le_of_ble_eq_true rfl) rfl b0 b1 rfl rfl (cr_openAll hB) (fun r9 h9 e9 => ?_)))
            obtain ⟨rfl, hB9, hf11⟩ := e9
            have hU := hU.fBr hB9 hf11
            obtain ⟨hC, hR, hB, hT, hL, hp⟩ := id hU
            obtain ⟨c0, c1⟩ := id hC
            obtain ⟨r0, r1, r2, r3, r4, r5⟩ := id hR
            obtain ⟨b0, b1, b2, b3, b4, b5, b6, b7, b8⟩ := id hB
            obtain ⟨t0, t1, t2, t3, t4, t5, t6, t7, t8⟩ := id hT
            obtain ⟨a0, a1, a2, a3, a4, a5, a6, a7, a8, a9⟩ := id hL
            show Wp _ _ _ _ [] _ _ _
            refine wp_il5 (q := 96) dX3_put_94 rfl (wp_s1I (q := 99) dX3_put_96 rfl q30 (Nat.le_of_ble_eq_true rfl) rfl rfl rfl (ct_told (d + 1)) (wp_iret dX3_put_99 rfl ?_))
            refine ⟨rI ?_, ?_, fun j hj => by rw [hf11 j (by omega), hf10 j (by omega)]⟩
            · unfold spPut
              rw [if_neg (by omega), if_neg (by omega)]
            · rw [if_pos (by omega)]
              exact ⟨li, we, od, tsz, tpl, twi, tod, ln, rw, rs, lo, hU, hvr, hli, hwe, hlr, hlw, trivial⟩
          · refine wp_il4 (q := 61) dX3_put_59 rfl (wp_il1 (q := 62) dX3_put_61 rfl (wp_icmp_eq (t := 68) (q := 65) dX3_put_62 rfl rfl (fun c62 => ?_) (fun c62 => ?_)))
            · refine wp_al0 (q := 69) dX3_put_68 rfl (wp_getf (q := 72) dX3_put_69 rfl f17 c0 c1 rfl (fun z => nomatch z) (wp_il1 (q := 73) dX3_put_72 rfl (wp_v1I (q := 76) dX3_put_73 rfl q27 (Nat.le_of_ble_eq_true rfl) rfl b0 b1 rfl rfl (ct_playerAt (d + 1) hB) (wp_is5 (q := 78) dX3_put_76 rfl rfl (wp_al0 (q := 79) dX3_put_78 rfl (wp_getf (q := 82) dX3_put_79 rfl f17 c0 c1 rfl (fun z => nomatch z) (wp_il1 (q := 83) dX3_put_82 rfl (wp_il3 (q := 84) dX3_put_83 rfl (wp_v2 (q := 87) dX3_put_84 rfl q28 (Nat.le_of_ble_eq_true rfl) rfl b0 b1 rfl rfl (cr_setPlace hB (by omega) (by omega)) (fun r9 h9 e9 => ?_))))))))))
              obtain ⟨rfl, hB9, hf10⟩ := e9
              have hU := hU.fBr hB9 hf10
              obtain ⟨hC, hR, hB, hT, hL, hp⟩ := id hU
              obtain ⟨c0, c1⟩ := id hC
              obtain ⟨r0, r1, r2, r3, r4, r5⟩ := id hR
              obtain ⟨b0, b1, b2, b3, b4, b5, b6, b7, b8⟩ := id hB
              obtain ⟨t0, t1, t2, t3, t4, t5, t6, t7, t8⟩ := id hT
              obtain ⟨a0, a1, a2, a3, a4, a5, a6, a7, a8, a9⟩ := id hL
              show Wp _ _ _ _ [] _ _ _
              refine wp_al0 (q := 88) dX3_put_87 rfl (wp_getf (q := 91) dX3_put_88 rfl f17 c0 c1 rfl (fun z => nomatch z) (wp_v0 (q := 94) dX3_put_91 rfl q29 (Nat.le_of_ble_eq_true rfl) rfl b0 b1 rfl rfl (cr_openAll hB) (fun r9 h9 e9 => ?_)))
              obtain ⟨rfl, hB9, hf11⟩ := e9
              have hU := hU.fBr hB9 hf11
              obtain ⟨hC, hR, hB, hT, hL, hp⟩ := id hU
              obtain ⟨c0, c1⟩ := id hC
              obtain ⟨r0, r1, r2, r3, r4, r5⟩ := id hR
              obtain ⟨b0, b1, b2, b3, b4, b5, b6, b7, b8⟩ := id hB
              obtain ⟨t0, t1, t2, t3, t4, t5, t6, t7, t8⟩ := id hT
              obtain ⟨a0, a1, a2, a3, a4, a5, a6, a7, a8, a9⟩ := id hL
              show Wp _ _ _ _ [] _ _ _
              refine wp_il5 (q := 96) dX3_put_94 rfl (wp_s1I (q := 99) dX3_put_96 rfl q30 (Nat.le_of_ble_eq_true rfl) rfl rfl rfl (ct_told (d + 1)) (wp_iret dX3_put_99 rfl ?_))
              refine ⟨rI ?_, ?_, fun j hj => by rw [hf11 j (by omega), hf10 j (by omega)]⟩
              · unfold spPut
                rw [if_neg (by omega), if_neg (by omega)]
              · rw [if_pos (by omega)]
                exact ⟨li, we, od, tsz, tpl, twi, tod, ln, rw, rs, lo, hU, hvr, hli, hwe, hlr, hlw, trivial⟩
            · refine wp_bi (q := 67) dX3_put_65 rfl (by decide) (by decide) (wp_iret dX3_put_67 rfl ?_)
              refine ⟨rI ?_, by rw [if_neg (by omega)]; exact hS, fun _ _ => rfl⟩
              unfold spPut
              (repeat' split) <;> omega
      · refine wp_ic (q := 29) dX3_put_28 rfl (by decide) (by decide) (wp_iret dX3_put_29 rfl ?_)
        refine ⟨rI ?_, by rw [if_neg (by omega)]; exact hS, fun _ _ => rfl⟩
        unfold spPut
        (repeat' split) <;> omega
