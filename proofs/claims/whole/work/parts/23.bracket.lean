/-! a cup: reads and writes (rows laid by wip/whole) -/
theorem rI {x y : Int} (h : x = y) : (some (mI x) : Option mV) = some (mI y) := by rw [h]
theorem rJ {x y : Int} (h : x = y) : (some (mL x) : Option mV) = some (mL y) := by rw [h]
/-- a cup at k: size, places, winners, odds -/
def BrAt (h : List mC) (k : Nat) (sz : Int) (pl wi od : List Int) : Prop := 2 ≤ k ∧ h[k]? = some (mO 0 [mI sz, mR (k + 1), mR (k + 2), mR (k + 3)]) ∧ h[k + 1]? = some (mA pl) ∧ h[k + 2]? = some (mA wi) ∧ h[k + 3]? = some (mJ od) ∧ pl.length = 8 ∧ wi.length = 8 ∧ od.length = 32 ∧ (sz = 2 ∨ sz = 4 ∨ sz = 8)
theorem BrAt.fr {h h' : List mC} {k : Nat} {sz : Int} {pl wi od : List Int} (hB : BrAt h k sz pl wi od) (hf : ∀ j, k ≤ j → j < k + 4 → h'[j]? = h[j]?) : BrAt h' k sz pl wi od := by
  obtain ⟨b0, b1, b2, b3, b4, b5⟩ := hB
  exact ⟨b0, by rw [hf k (by omega) (by omega)]; exact b1, by rw [hf (k + 1) (by omega) (by omega)]; exact b2, by rw [hf (k + 2) (by omega) (by omega)]; exact b3, by rw [hf (k + 3) (by omega) (by omega)]; exact b4, b5⟩
theorem BrAt.setP {h : List mC} {k : Nat} {sz : Int} {pl wi od pl' : List Int} (hB : BrAt h k sz pl wi od) (hl : pl'.length = 8) : BrAt (h.set (k + 1) (mA pl')) k sz pl' wi od := by
  obtain ⟨b0, b1, b2, b3, b4, b5, b6⟩ := hB
  exact ⟨b0, gs_ne b1 (by omega), gs_eq b2, gs_ne b3 (by omega), gs_ne b4 (by omega), hl, b6⟩
theorem BrAt.setW {h : List mC} {k : Nat} {sz : Int} {pl wi od wi' : List Int} (hB : BrAt h k sz pl wi od) (hl : wi'.length = 8) : BrAt (h.set (k + 2) (mA wi')) k sz pl wi' od := by
  obtain ⟨b0, b1, b2, b3, b4, b5, b6, b7⟩ := hB
  exact ⟨b0, gs_ne b1 (by omega), gs_ne b2 (by omega), gs_eq b3, gs_ne b4 (by omega), b5, hl, b7⟩
theorem BrAt.setO {h : List mC} {k : Nat} {sz : Int} {pl wi od od' : List Int} (hB : BrAt h k sz pl wi od) (hl : od'.length = 32) : BrAt (h.set (k + 3) (mJ od')) k sz pl wi od' := by
  obtain ⟨b0, b1, b2, b3, b4, b5, b6, b7, b8⟩ := hB
  exact ⟨b0, gs_ne b1 (by omega), gs_ne b2 (by omega), gs_ne b3 (by omega), gs_eq b4, b5, b6, hl, b8⟩
theorem BrAt.setS {h : List mC} {k : Nat} {sz sz' : Int} {pl wi od : List Int} (hB : BrAt h k sz pl wi od) (hs : sz' = 2 ∨ sz' = 4 ∨ sz' = 8) : BrAt (h.set k (mO 0 [mI sz', mR (k + 1), mR (k + 2), mR (k + 3)])) k sz' pl wi od := by
  obtain ⟨b0, b1, b2, b3, b4, b5, b6, b7, b8⟩ := hB
  exact ⟨b0, gs_eq b1, gs_ne b2 (by omega), gs_ne b3 (by omega), gs_ne b4 (by omega), b5, b6, b7, hs⟩
/-- eight numbers; outside 8 -/
def rd8 (l : List Int) (x : Int) : Int := if 0 ≤ x ∧ x < 8 then gI l x else 8
def p2A (r : Int) : Int := if r = 0 then 1 else if r = 1 then 2 else if r = 2 then 4 else 8
def lrA (sz : Int) : Int := if sz = 8 then 3 else if sz = 4 then 2 else 1
def fmA (sz r : Int) : Int := if r = 1 then 0 else if r = 2 then sz - sz / 2 else sz - sz / 4
def rdO (sz m : Int) : Int := if m < fmA sz 2 then 1 else if m < fmA sz 3 then 2 else 3
def fpA (sz m r : Int) : Int := (m - fmA sz r) * p2A r
def cnt8 (l : List Int) (a b : Int) : Int := sumN (fun i => bI (rd8 l (a + i) ≠ 8)) (b - a).toNat
def kdA (pl wi : List Int) (sz m : Int) : Int :=
  if cnt8 pl (fpA sz m (rdO sz m)) (fpA sz m (rdO sz m) + p2A (rdO sz m - 1)) = 0 ∧ cnt8 pl (fpA sz m (rdO sz m) + p2A (rdO sz m - 1)) (fpA sz m (rdO sz m) + p2A (rdO sz m)) = 0 then 0
  else if cnt8 pl (fpA sz m (rdO sz m)) (fpA sz m (rdO sz m) + p2A (rdO sz m - 1)) = 0 ∨ cnt8 pl (fpA sz m (rdO sz m) + p2A (rdO sz m - 1)) (fpA sz m (rdO sz m) + p2A (rdO sz m)) = 0 then 1
  else if rd8 wi m = 8 then 2 else 3
def odA (od : List Int) (r x : Int) : Int := if 0 ≤ x ∧ x < 8 ∧ 0 ≤ r * 8 + x ∧ r * 8 + x < 32 then gI od (r * 8 + x) else 0
/-- the first place below n with a value; -1 -/
def fndF (f : Int → Int) (v : Int) (n : Nat) : Nat → Int
  | 0 => -1
  | k + 1 => if f ((n - (k + 1) : Nat) : Int) = v then ((n - (k + 1) : Nat) : Int) else fndF f v n k
def plO (pl : List Int) (sz v : Int) : Int := if v = 8 then -1 else fndF (rd8 pl) v sz.toNat sz.toNat
theorem fndF_in {f : Int → Int} {v : Int} {n : Nat} : ∀ k, k ≤ n → -1 ≤ fndF f v n k ∧ fndF f v n k < n ∧ (fndF f v n k ≠ -1 → f (fndF f v n k) = v)
  | 0, _ => ⟨Int.le_refl _, by simp only [fndF]; omega, fun h => absurd rfl h⟩
  | k + 1, hk => by
    unfold fndF
    split
    · rename_i h
      exact ⟨by omega, by omega, fun _ => h⟩
    · exact fndF_in k (by omega)
theorem fndF_no {f : Int → Int} {v : Int} {n : Nat} : ∀ k, k ≤ n → fndF f v n k = -1 → ∀ j : Nat, n - k ≤ j → j < n → f j ≠ v
  | 0, _, _, j, h1, h2 => by omega
  | k + 1, hk, he, j, h1, h2 => by
    unfold fndF at he
    split at he
    · omega
    · rename_i h
      by_cases e : j = n - (k + 1)
      · rw [e]; exact h
      · exact fndF_no k (by omega) he j (by omega) h2
theorem cnt8_in (l : List Int) (a b : Int) : 0 ≤ cnt8 l a b ∧ cnt8 l a b ≤ (b - a).toNat := by
  have := sumN_le (f := fun i => bI (rd8 l (a + i) ≠ 8)) (c := 1) (b - a).toNat (fun i _ => by rcases bI_01 (p := rd8 l (a + i) ≠ 8) with e | e <;> rw [e] <;> omega)
  unfold cnt8
  omega
theorem szr {sz r : Int} (hs : sz = 2 ∨ sz = 4 ∨ sz = 8) (h1 : 1 ≤ r) (h3 : r ≤ 3) : mShr sz (r - 1) = sz - fmA sz r := by
  rcases hs with rfl | rfl | rfl <;> rcases (show r = 1 ∨ r = 2 ∨ r = 3 by omega) with rfl | rfl | rfl <;> decide +kernel
theorem shl1 {r : Int} (h1 : 0 ≤ r) (h3 : r ≤ 3) : mShl 1 r = p2A r := by
  rcases (show r = 0 ∨ r = 1 ∨ r = 2 ∨ r = 3 by omega) with rfl | rfl | rfl | rfl <;> decide +kernel
theorem shlA {x r : Int} (h1 : 1 ≤ r) (h3 : r ≤ 3) (h0 : 0 ≤ x) (hx : x < 100) : mShl x r = x * p2A r := by
  rcases (show r = 1 ∨ r = 2 ∨ r = 3 by omega) with rfl | rfl | rfl
  · exact mShl_l h0 1 1 (by decide) (by omega)
  · exact mShl_l h0 2 2 (by decide) (by omega)
  · exact mShl_l h0 3 3 (by decide) (by omega)
theorem fmA_in {sz r : Int} (hs : sz = 2 ∨ sz = 4 ∨ sz = 8) (h1 : 1 ≤ r) (h3 : r ≤ 3) : 0 ≤ fmA sz r ∧ fmA sz r ≤ 6 := by
  rcases hs with rfl | rfl | rfl <;> rcases (show r = 1 ∨ r = 2 ∨ r = 3 by omega) with rfl | rfl | rfl <;> decide +kernel
theorem rdO_in (sz m : Int) : 1 ≤ rdO sz m ∧ rdO sz m ≤ 3 := by
  unfold rdO
  split
  · omega
  · split <;> omega
/-- a match's round, and its first place: all cases -/
theorem fp_in {sz m : Int} (hs : sz = 2 ∨ sz = 4 ∨ sz = 8) (h0 : 0 ≤ m) (h1 : m < sz - 1) : fmA sz (rdO sz m) ≤ m ∧ 0 ≤ fpA sz m (rdO sz m) ∧ fpA sz m (rdO sz m) + p2A (rdO sz m) ≤ sz ∧ rdO sz m ≤ lrA sz ∧ 1 ≤ p2A (rdO sz m - 1) ∧ p2A (rdO sz m) = 2 * p2A (rdO sz m - 1) := by
  rcases hs with rfl | rfl | rfl
  · rcases (show m = 0 by omega) with rfl
    decide +kernel
  · rcases (show m = 0 ∨ m = 1 ∨ m = 2 by omega) with rfl | rfl | rfl <;> decide +kernel
  · rcases (show m = 0 ∨ m = 1 ∨ m = 2 ∨ m = 3 ∨ m = 4 ∨ m = 5 ∨ m = 6 by omega) with rfl | rfl | rfl | rfl | rfl | rfl | rfl <;> decide +kernel
theorem ct_playerAt (d : Nat) {h : List mC} {k : Nat} {sz : Int} {pl wi od : List Int} (hB : BrAt h k sz pl wi od) {x : Int} : Rt (d + 0) mX0_playerAt [mR k, mI x] h (some (mI (rd8 pl x))) (h) := by
  obtain ⟨b0, b1, b2, b3, b4, b5, b6, b7, b8⟩ := id hB
  show Wp _ mX0_playerAt 0 [mR k, mI x] [] h (0, 0) _
  refine wp_il1 (q := 1) dX0_playerAt_0 rfl (wp_if_lt (t := 22) (q := 4) dX0_playerAt_1 rfl rfl (fun c1 => ?_) (fun c1 => ?_))
  · refine wp_bi (q := 24) dX0_playerAt_22 rfl (by decide) (by decide) (wp_iret dX0_playerAt_24 rfl ?_)
    exact ⟨by unfold rd8 gI; first | rw [if_pos (by omega)] | rw [if_neg (by omega)], rfl⟩
  · refine wp_il1 (q := 5) dX0_playerAt_4 rfl (wp_al0 (q := 6) dX0_playerAt_5 rfl (wp_getf (q := 9) dX0_playerAt_6 rfl f8 b0 b1 rfl (fun z => nomatch z) (wp_aleni (q := 10) dX0_playerAt_9 rfl b2 (by omega) (wp_icmp_ge (t := 22) (q := 13) dX0_playerAt_10 rfl rfl (fun c10 => ?_) (fun c10 => ?_)))))
    · refine wp_bi (q := 24) dX0_playerAt_22 rfl (by decide) (by decide) (wp_iret dX0_playerAt_24 rfl ?_)
      exact ⟨by unfold rd8 gI; first | rw [if_pos (by omega)] | rw [if_neg (by omega)], rfl⟩
    · refine wp_al0 (q := 14) dX0_playerAt_13 rfl (wp_getf (q := 17) dX0_playerAt_14 rfl f8 b0 b1 rfl (fun z => nomatch z) (wp_il1 (q := 18) dX0_playerAt_17 rfl (wp_iaload (q := 19) dX0_playerAt_18 rfl b2 (by omega) (by omega) (wp_goto (q := 24) dX0_playerAt_19 rfl (wp_iret dX0_playerAt_24 rfl ?_)))))
      exact ⟨by unfold rd8 gI; first | rw [if_pos (by omega)] | rw [if_neg (by omega)], rfl⟩
theorem ct_winnerOf (d : Nat) {h : List mC} {k : Nat} {sz : Int} {pl wi od : List Int} (hB : BrAt h k sz pl wi od) {x : Int} : Rt (d + 0) mX0_winnerOf [mR k, mI x] h (some (mI (rd8 wi x))) (h) := by
  obtain ⟨b0, b1, b2, b3, b4, b5, b6, b7, b8⟩ := id hB
  show Wp _ mX0_winnerOf 0 [mR k, mI x] [] h (0, 0) _
  refine wp_il1 (q := 1) dX0_winnerOf_0 rfl (wp_if_lt (t := 22) (q := 4) dX0_winnerOf_1 rfl rfl (fun c1 => ?_) (fun c1 => ?_))
  · refine wp_bi (q := 24) dX0_winnerOf_22 rfl (by decide) (by decide) (wp_iret dX0_winnerOf_24 rfl ?_)
    exact ⟨by unfold rd8 gI; first | rw [if_pos (by omega)] | rw [if_neg (by omega)], rfl⟩
  · refine wp_il1 (q := 5) dX0_winnerOf_4 rfl (wp_al0 (q := 6) dX0_winnerOf_5 rfl (wp_getf (q := 9) dX0_winnerOf_6 rfl f9 b0 b1 rfl (fun z => nomatch z) (wp_aleni (q := 10) dX0_winnerOf_9 rfl b3 (by omega) (wp_icmp_ge (t := 22) (q := 13) dX0_winnerOf_10 rfl rfl (fun c10 => ?_) (fun c10 => ?_)))))
    · refine wp_bi (q := 24) dX0_winnerOf_22 rfl (by decide) (by decide) (wp_iret dX0_winnerOf_24 rfl ?_)
      exact ⟨by unfold rd8 gI; first | rw [if_pos (by omega)] | rw [if_neg (by omega)], rfl⟩
    · refine wp_al0 (q := 14) dX0_winnerOf_13 rfl (wp_getf (q := 17) dX0_winnerOf_14 rfl f9 b0 b1 rfl (fun z => nomatch z) (wp_il1 (q := 18) dX0_winnerOf_17 rfl (wp_iaload (q := 19) dX0_winnerOf_18 rfl b3 (by omega) (by omega) (wp_goto (q := 24) dX0_winnerOf_19 rfl (wp_iret dX0_winnerOf_24 rfl ?_)))))
      exact ⟨by unfold rd8 gI; first | rw [if_pos (by omega)] | rw [if_neg (by omega)], rfl⟩
theorem ct_setPlace (d : Nat) {h : List mC} {k : Nat} {sz : Int} {pl wi od : List Int} (hB : BrAt h k sz pl wi od) {x v : Int} (h0 : 0 ≤ x) (h1 : x < 8) : Rt (d + 0) mX0_setPlace [mR k, mI x, mI v] h (none) (h.set (k + 1) (mA (sI pl x v))) := by
  obtain ⟨b0, b1, b2, b3, b4, b5, b6, b7, b8⟩ := id hB
  show Wp _ mX0_setPlace 0 [mR k, mI x, mI v] [] h (0, 0) _
  refine wp_il1 (q := 1) dX0_setPlace_0 rfl (wp_if_lt (t := 20) (q := 4) dX0_setPlace_1 rfl rfl (fun c1 => ?_) (fun c1 => ?_))
  · exfalso; omega
  · refine wp_il1 (q := 5) dX0_setPlace_4 rfl (wp_al0 (q := 6) dX0_setPlace_5 rfl (wp_getf (q := 9) dX0_setPlace_6 rfl f8 b0 b1 rfl (fun z => nomatch z) (wp_aleni (q := 10) dX0_setPlace_9 rfl b2 (by omega) (wp_icmp_ge (t := 20) (q := 13) dX0_setPlace_10 rfl rfl (fun c10 => ?_) (fun c10 => ?_)))))
    · exfalso; omega
    · refine wp_al0 (q := 14) dX0_setPlace_13 rfl (wp_getf (q := 17) dX0_setPlace_14 rfl f8 b0 b1 rfl (fun z => nomatch z) (wp_il1 (q := 18) dX0_setPlace_17 rfl (wp_il2 (q := 19) dX0_setPlace_18 rfl (wp_iastore (q := 20) dX0_setPlace_19 rfl (by omega) b2 (by omega) (by omega) (wp_vret dX0_setPlace_20 rfl ?_)))))
      exact ⟨rfl, rfl⟩
theorem ct_setWinner (d : Nat) {h : List mC} {k : Nat} {sz : Int} {pl wi od : List Int} (hB : BrAt h k sz pl wi od) {x v : Int} (h0 : 0 ≤ x) (h1 : x < 8) : Rt (d + 0) mX0_setWinner [mR k, mI x, mI v] h (none) (h.set (k + 2) (mA (sI wi x v))) := by
  obtain ⟨b0, b1, b2, b3, b4, b5, b6, b7, b8⟩ := id hB
  show Wp _ mX0_setWinner 0 [mR k, mI x, mI v] [] h (0, 0) _
  refine wp_il1 (q := 1) dX0_setWinner_0 rfl (wp_if_lt (t := 20) (q := 4) dX0_setWinner_1 rfl rfl (fun c1 => ?_) (fun c1 => ?_))
  · exfalso; omega
  · refine wp_il1 (q := 5) dX0_setWinner_4 rfl (wp_al0 (q := 6) dX0_setWinner_5 rfl (wp_getf (q := 9) dX0_setWinner_6 rfl f9 b0 b1 rfl (fun z => nomatch z) (wp_aleni (q := 10) dX0_setWinner_9 rfl b3 (by omega) (wp_icmp_ge (t := 20) (q := 13) dX0_setWinner_10 rfl rfl (fun c10 => ?_) (fun c10 => ?_)))))
    · exfalso; omega
    · refine wp_al0 (q := 14) dX0_setWinner_13 rfl (wp_getf (q := 17) dX0_setWinner_14 rfl f9 b0 b1 rfl (fun z => nomatch z) (wp_il1 (q := 18) dX0_setWinner_17 rfl (wp_il2 (q := 19) dX0_setWinner_18 rfl (wp_iastore (q := 20) dX0_setWinner_19 rfl (by omega) b3 (by omega) (by omega) (wp_vret dX0_setWinner_20 rfl ?_)))))
      exact ⟨rfl, rfl⟩
theorem ct_hasPlace (d : Nat) {h : List mC} {k : Nat} {sz : Int} {pl wi od : List Int} (hB : BrAt h k sz pl wi od) {x : Int} : Rt (d + 0) mX0_hasPlace [mR k, mI x] h (some (mI (bI (0 ≤ x ∧ x < sz)))) (h) := by
  obtain ⟨b0, b1, b2, b3, b4, b5, b6, b7, b8⟩ := id hB
  show Wp _ mX0_hasPlace 0 [mR k, mI x] [] h (0, 0) _
  refine wp_il1 (q := 1) dX0_hasPlace_0 rfl (wp_if_lt (t := 16) (q := 4) dX0_hasPlace_1 rfl rfl (fun c1 => ?_) (fun c1 => ?_))
  · refine wp_ic (q := 17) dX0_hasPlace_16 rfl (by decide) (by decide) (wp_bret dX0_hasPlace_17 rfl (by first | exact Or.inl rfl | exact Or.inr rfl | exact bI_01) ?_)
    exact ⟨by first | rw [bI_t (by omega)] | rw [bI_f (by omega)], rfl⟩
  · refine wp_il1 (q := 5) dX0_hasPlace_4 rfl (wp_al0 (q := 6) dX0_hasPlace_5 rfl (wp_getf (q := 9) dX0_hasPlace_6 rfl f5 b0 b1 rfl (fun z => nomatch z) (wp_icmp_ge (t := 16) (q := 12) dX0_hasPlace_9 rfl rfl (fun c9 => ?_) (fun c9 => ?_))))
    · refine wp_ic (q := 17) dX0_hasPlace_16 rfl (by decide) (by decide) (wp_bret dX0_hasPlace_17 rfl (by first | exact Or.inl rfl | exact Or.inr rfl | exact bI_01) ?_)
      exact ⟨by first | rw [bI_t (by omega)] | rw [bI_f (by omega)], rfl⟩
    · refine wp_ic (q := 13) dX0_hasPlace_12 rfl (by decide) (by decide) (wp_goto (q := 17) dX0_hasPlace_13 rfl (wp_bret dX0_hasPlace_17 rfl (by first | exact Or.inl rfl | exact Or.inr rfl | exact bI_01) ?_))
      exact ⟨by first | rw [bI_t (by omega)] | rw [bI_f (by omega)], rfl⟩
theorem ct_hasMatch (d : Nat) {h : List mC} {k : Nat} {sz : Int} {pl wi od : List Int} (hB : BrAt h k sz pl wi od) {x : Int} : Rt (d + 0) mX0_hasMatch [mR k, mI x] h (some (mI (bI (0 ≤ x ∧ x < sz - 1)))) (h) := by
  obtain ⟨b0, b1, b2, b3, b4, b5, b6, b7, b8⟩ := id hB
  show Wp _ mX0_hasMatch 0 [mR k, mI x] [] h (0, 0) _
  refine wp_il1 (q := 1) dX0_hasMatch_0 rfl (wp_if_lt (t := 18) (q := 4) dX0_hasMatch_1 rfl rfl (fun c1 => ?_) (fun c1 => ?_))
  · refine wp_ic (q := 19) dX0_hasMatch_18 rfl (by decide) (by decide) (wp_bret dX0_hasMatch_19 rfl (by first | exact Or.inl rfl | exact Or.inr rfl | exact bI_01) ?_)
    exact ⟨by first | rw [bI_t (by omega)] | rw [bI_f (by omega)], rfl⟩
  · refine wp_il1 (q := 5) dX0_hasMatch_4 rfl (wp_al0 (q := 6) dX0_hasMatch_5 rfl (wp_getf (q := 9) dX0_hasMatch_6 rfl f5 b0 b1 rfl (fun z => nomatch z) (wp_ic (q := 10) dX0_hasMatch_9 rfl (by decide) (by decide) (wp_isub (q := 11) dX0_hasMatch_10 rfl (by omega) (by omega) (wp_icmp_ge (t := 18) (q := 14) dX0_hasMatch_11 rfl rfl (fun c11 => ?_) (fun c11 => ?_))))))
    · refine wp_ic (q := 19) dX0_hasMatch_18 rfl (by decide) (by decide) (wp_bret dX0_hasMatch_19 rfl (by first | exact Or.inl rfl | exact Or.inr rfl | exact bI_01) ?_)
      exact ⟨by first | rw [bI_t (by omega)] | rw [bI_f (by omega)], rfl⟩
    · refine wp_ic (q := 15) dX0_hasMatch_14 rfl (by decide) (by decide) (wp_goto (q := 19) dX0_hasMatch_15 rfl (wp_bret dX0_hasMatch_19 rfl (by first | exact Or.inl rfl | exact Or.inr rfl | exact bI_01) ?_))
      exact ⟨by first | rw [bI_t (by omega)] | rw [bI_f (by omega)], rfl⟩
theorem ct_lastRound (d : Nat) {h : List mC} {k : Nat} {sz : Int} {pl wi od : List Int} (hB : BrAt h k sz pl wi od)  : Rt (d + 0) mX0_lastRound [mR k] h (some (mI (lrA sz))) (h) := by
  obtain ⟨b0, b1, b2, b3, b4, b5, b6, b7, b8⟩ := id hB
  show Wp _ mX0_lastRound 0 [mR k] [] h (0, 0) _
  refine wp_al0 (q := 1) dX0_lastRound_0 rfl (wp_getf (q := 4) dX0_lastRound_1 rfl f5 b0 b1 rfl (fun z => nomatch z) (wp_bi (q := 6) dX0_lastRound_4 rfl (by decide) (by decide) (wp_icmp_ne (t := 13) (q := 9) dX0_lastRound_6 rfl rfl (fun c6 => ?_) (fun c6 => ?_))))
  · refine wp_al0 (q := 14) dX0_lastRound_13 rfl (wp_getf (q := 17) dX0_lastRound_14 rfl f5 b0 b1 rfl (fun z => nomatch z) (wp_ic (q := 18) dX0_lastRound_17 rfl (by decide) (by decide) (wp_icmp_ne (t := 25) (q := 21) dX0_lastRound_18 rfl rfl (fun c18 => ?_) (fun c18 => ?_))))
    · refine wp_ic (q := 26) dX0_lastRound_25 rfl (by decide) (by decide) (wp_iret dX0_lastRound_26 rfl ?_)
      exact ⟨by unfold lrA; first | rw [if_pos c6] | rw [if_neg c6, if_pos c18] | rw [if_neg c6, if_neg c18], rfl⟩
    · refine wp_ic (q := 22) dX0_lastRound_21 rfl (by decide) (by decide) (wp_goto (q := 26) dX0_lastRound_22 rfl (wp_iret dX0_lastRound_26 rfl ?_))
      exact ⟨by unfold lrA; first | rw [if_pos c6] | rw [if_neg c6, if_pos c18] | rw [if_neg c6, if_neg c18], rfl⟩
  · refine wp_ic (q := 10) dX0_lastRound_9 rfl (by decide) (by decide) (wp_goto (q := 26) dX0_lastRound_10 rfl (wp_iret dX0_lastRound_26 rfl ?_))
    exact ⟨by unfold lrA; first | rw [if_pos c6] | rw [if_neg c6, if_pos c18] | rw [if_neg c6, if_neg c18], rfl⟩
theorem ct_firstMatch (d : Nat) {h : List mC} {k : Nat} {sz : Int} {pl wi od : List Int} (hB : BrAt h k sz pl wi od) {r : Int} (h1 : 1 ≤ r) (h3 : r ≤ 3) : Rt (d + 0) mX0_firstMatch [mR k, mI r] h (some (mI (fmA sz r))) (h) := by
  obtain ⟨b0, b1, b2, b3, b4, b5, b6, b7, b8⟩ := id hB
  have hf := fmA_in b8 h1 h3
  show Wp _ mX0_firstMatch 0 [mR k, mI r] [] h (0, 0) _
  refine wp_al0 (q := 1) dX0_firstMatch_0 rfl (wp_getf (q := 4) dX0_firstMatch_1 rfl f5 b0 b1 rfl (fun z => nomatch z) (wp_al0 (q := 5) dX0_firstMatch_4 rfl (wp_getf (q := 8) dX0_firstMatch_5 rfl f5 b0 b1 rfl (fun z => nomatch z) (wp_il1 (q := 9) dX0_firstMatch_8 rfl (wp_ic (q := 10) dX0_firstMatch_9 rfl (by decide) (by decide) (wp_isub (q := 11) dX0_firstMatch_10 rfl (by omega) (by omega) (wp_ishr (sz - fmA sz r) (q := 12) dX0_firstMatch_11 rfl (szr b8 h1 h3) (wp_isub (q := 13) dX0_firstMatch_12 rfl (by omega) (by omega) (wp_iret dX0_firstMatch_13 rfl ?_)))))))))
  exact ⟨rI (by omega), rfl⟩
theorem ct_firstPlace (d : Nat) {h : List mC} {k : Nat} {sz : Int} {pl wi od : List Int} (hB : BrAt h k sz pl wi od) {m r : Int} (h1 : 1 ≤ r) (h3 : r ≤ 3) (hm : fmA sz r ≤ m) (hm2 : m < 8) : Rt (d + 1) mX0_firstPlace [mR k, mI m, mI r] h (some (mI (fpA sz m r))) (h) := by
  obtain ⟨b0, b1, b2, b3, b4, b5, b6, b7, b8⟩ := id hB
  have hf := fmA_in b8 h1 h3
  show Wp _ mX0_firstPlace 0 [mR k, mI m, mI r] [] h (0, 0) _
  refine wp_il1 (q := 1) dX0_firstPlace_0 rfl (wp_al0 (q := 2) dX0_firstPlace_1 rfl (wp_il2 (q := 3) dX0_firstPlace_2 rfl (wp_v1I (q := 6) dX0_firstPlace_3 rfl q47 (Nat.le_of_ble_eq_true rfl) rfl b0 b1 rfl rfl (ct_firstMatch d hB h1 h3) (wp_isub (q := 7) dX0_firstPlace_6 rfl (by omega) (by omega) (wp_il2 (q := 8) dX0_firstPlace_7 rfl (wp_ishl ((m - fmA sz r) * p2A r) (q := 9) dX0_firstPlace_8 rfl (shlA h1 h3 (by omega) (by omega)) (wp_iret dX0_firstPlace_9 rfl ?_)))))))
  exact ⟨rfl, rfl⟩
theorem ct_roundOf (d : Nat) {h : List mC} {k : Nat} {sz : Int} {pl wi od : List Int} (hB : BrAt h k sz pl wi od) {m : Int} (hm : 0 ≤ m) : Rt (d + 1) mX0_roundOf [mR k, mI m] h (some (mI (rdO sz m))) h := by
  obtain ⟨b0, b1, b2, b3, b4, b5, b6, b7, b8⟩ := id hB
  have l3 : ¬ m < fmA sz 2 → ¬ m < fmA sz 3 → Wp (d + 1) mX0_roundOf 2 [mR k, mI m, mI 3] [] h (0, 0) (fun r' h' => r' = some (mI (rdO sz m)) ∧ h' = h) := by
    intro h2 h3
    refine wp_il2 (q := 3) dX0_roundOf_2 rfl (wp_ic (q := 4) dX0_roundOf_3 rfl (by decide) (by decide) (wp_icmp_ge (t := 24) (q := 7) dX0_roundOf_4 rfl rfl (fun c4 => ?_) (fun c4 => ?_)))
    · refine wp_il2 (q := 25) dX0_roundOf_24 rfl (wp_iret dX0_roundOf_25 rfl ?_)
      exact ⟨by unfold rdO; rw [if_neg h2, if_neg h3], rfl⟩
    · exfalso; omega
  have l2 : ¬ m < fmA sz 2 → Wp (d + 1) mX0_roundOf 2 [mR k, mI m, mI 2] [] h (0, 0) (fun r' h' => r' = some (mI (rdO sz m)) ∧ h' = h) := by
    intro h2
    refine wp_il2 (q := 3) dX0_roundOf_2 rfl (wp_ic (q := 4) dX0_roundOf_3 rfl (by decide) (by decide) (wp_icmp_ge (t := 24) (q := 7) dX0_roundOf_4 rfl rfl (fun c4 => ?_) (fun c4 => ?_)))
    · exfalso; omega
    · refine wp_il1 (q := 8) dX0_roundOf_7 rfl (wp_al0 (q := 9) dX0_roundOf_8 rfl (wp_il2 (q := 10) dX0_roundOf_9 rfl (wp_ic (q := 11) dX0_roundOf_10 rfl (by decide) (by decide) (wp_iadd (q := 12) dX0_roundOf_11 rfl (by omega) (by omega) (wp_v1I (q := 15) dX0_roundOf_12 rfl q47 (Nat.le_of_ble_eq_true rfl) rfl b0 b1 rfl rfl (ct_firstMatch d (r := 3) hB (by decide) (by decide)) (wp_icmp_lt (t := 24) (q := 18) dX0_roundOf_15 rfl rfl (fun c15 => ?_) (fun c15 => ?_)))))))
      · refine wp_il2 (q := 25) dX0_roundOf_24 rfl (wp_iret dX0_roundOf_25 rfl ?_)
        exact ⟨by unfold rdO; rw [if_neg h2, if_pos c15], rfl⟩
      · refine wp_ii2 (q := 21) dX0_roundOf_18 rfl rfl (by omega) (by omega) (wp_goto (q := 2) dX0_roundOf_21 rfl ?_)
        exact l3 h2 (by omega)
  have l1 : Wp (d + 1) mX0_roundOf 2 [mR k, mI m, mI 1] [] h (0, 0) (fun r' h' => r' = some (mI (rdO sz m)) ∧ h' = h) := by
    refine wp_il2 (q := 3) dX0_roundOf_2 rfl (wp_ic (q := 4) dX0_roundOf_3 rfl (by decide) (by decide) (wp_icmp_ge (t := 24) (q := 7) dX0_roundOf_4 rfl rfl (fun c4 => ?_) (fun c4 => ?_)))
    · exfalso; omega
    · refine wp_il1 (q := 8) dX0_roundOf_7 rfl (wp_al0 (q := 9) dX0_roundOf_8 rfl (wp_il2 (q := 10) dX0_roundOf_9 rfl (wp_ic (q := 11) dX0_roundOf_10 rfl (by decide) (by decide) (wp_iadd (q := 12) dX0_roundOf_11 rfl (by omega) (by omega) (wp_v1I (q := 15) dX0_roundOf_12 rfl q47 (Nat.le_of_ble_eq_true rfl) rfl b0 b1 rfl rfl (ct_firstMatch d (r := 2) hB (by decide) (by decide)) (wp_icmp_lt (t := 24) (q := 18) dX0_roundOf_15 rfl rfl (fun c15 => ?_) (fun c15 => ?_)))))))
      · refine wp_il2 (q := 25) dX0_roundOf_24 rfl (wp_iret dX0_roundOf_25 rfl ?_)
        exact ⟨by unfold rdO; rw [if_pos c15], rfl⟩
      · refine wp_ii2 (q := 21) dX0_roundOf_18 rfl rfl (by omega) (by omega) (wp_goto (q := 2) dX0_roundOf_21 rfl ?_)
        exact l2 (by omega)
  show Wp _ mX0_roundOf 0 [mR k, mI m, mU] [] h (0, 0) _
  refine wp_ic (q := 1) dX0_roundOf_0 rfl (by decide) (by decide) (wp_is2 (q := 2) dX0_roundOf_1 rfl rfl ?_)
  exact l1
theorem ct_playersIn (d : Nat) {h : List mC} {k : Nat} {sz : Int} {pl wi od : List Int} (hB : BrAt h k sz pl wi od) {a b : Int} (ha : 0 ≤ a) (hab : a ≤ b) (hb : b ≤ 8) : Rt (d + 1) mX0_playersIn [mR k, mI a, mI b] h (some (mI (cnt8 pl a b))) h := by
  obtain ⟨b0, b1, b2, b3, b4, b5, b6, b7, b8⟩ := id hB
  have key : ∀ (j : Nat), j ≤ (b - a).toNat → ∀ (c x : Int), x = a + j → c = sumN (fun i => bI (rd8 pl (a + i) ≠ 8)) j → Wp (d + 1) mX0_playersIn 5 [mR k, mI a, mI b, mI c, mI x] [] h (0, 0) (fun r' h' => r' = some (mI (cnt8 pl a b)) ∧ h' = h) := by
    refine loop_up (b - a).toNat _ ?_ ?_
    · intro c x hx hc
      refine wp_il4 (q := 7) dX0_playersIn_5 rfl (wp_il2 (q := 8) dX0_playersIn_7 rfl (wp_icmp_ge (t := 31) (q := 11) dX0_playersIn_8 rfl rfl (fun c8 => ?_) (fun c8 => ?_)))
      · refine wp_il3 (q := 32) dX0_playersIn_31 rfl (wp_iret dX0_playersIn_32 rfl ?_)
        exact ⟨rI hc, rfl⟩
      · exfalso; omega
    · intro j hj ih c x hx hc
      have bo := sumN_le (f := fun i => bI (rd8 pl (a + i) ≠ 8)) (c := 1) j (fun i _ => by rcases bI_01 (p := rd8 pl (a + i) ≠ 8) with e | e <;> rw [e] <;> omega)
      have e1 : sumN (fun i => bI (rd8 pl (a + i) ≠ 8)) (j + 1) = sumN (fun i => bI (rd8 pl (a + i) ≠ 8)) j + bI (rd8 pl (a + j) ≠ 8) := rfl
      rw [← hx] at e1
      refine wp_il4 (q := 7) dX0_playersIn_5 rfl (wp_il2 (q := 8) dX0_playersIn_7 rfl (wp_icmp_ge (t := 31) (q := 11) dX0_playersIn_8 rfl rfl (fun c8 => ?_) (fun c8 => ?_)))
      · exfalso; omega
      · refine wp_al0 (q := 12) dX0_playersIn_11 rfl (wp_il4 (q := 14) dX0_playersIn_12 rfl (wp_v1I (q := 17) dX0_playersIn_14 rfl q26 (Nat.le_of_ble_eq_true rfl) rfl b0 b1 rfl rfl (ct_playerAt d hB) (wp_bi (q := 19) dX0_playersIn_17 rfl (by decide) (by decide) (wp_icmp_eq (t := 25) (q := 22) dX0_playersIn_19 rfl rfl (fun c19 => ?_) (fun c19 => ?_)))))
        · refine wp_ii4 (q := 28) dX0_playersIn_25 rfl rfl (by omega) (by omega) (wp_goto (q := 5) dX0_playersIn_28 rfl ?_)
          exact ih _ _ (by omega) (by rw [e1]; first | (rw [bI_t c19]; omega) | (rw [bI_f (fun z => z c19)]; omega))
        · refine wp_ii3 (q := 25) dX0_playersIn_22 rfl rfl (by omega) (by omega) (wp_ii4 (q := 28) dX0_playersIn_25 rfl rfl (by omega) (by omega) (wp_goto (q := 5) dX0_playersIn_28 rfl ?_))
          exact ih _ _ (by omega) (by rw [e1]; first | (rw [bI_t c19]; omega) | (rw [bI_f (fun z => z c19)]; omega))
  show Wp _ mX0_playersIn 0 [mR k, mI a, mI b, mU, mU] [] h (0, 0) _
  refine wp_ic (q := 1) dX0_playersIn_0 rfl (by decide) (by decide) (wp_is3 (q := 2) dX0_playersIn_1 rfl rfl (wp_il1 (q := 3) dX0_playersIn_2 rfl (wp_is4 (q := 5) dX0_playersIn_3 rfl rfl ?_)))
  exact key 0 (Nat.zero_le _) 0 a (by omega) rfl
theorem ct_decidedMatches (d : Nat) {h : List mC} {k : Nat} {sz : Int} {pl wi od : List Int} (hB : BrAt h k sz pl wi od) : Rt (d + 1) mX0_decidedMatches [mR k] h (some (mI (sumN (fun i => bI (rd8 wi i ≠ 8)) (sz - 1).toNat))) h := by
  obtain ⟨b0, b1, b2, b3, b4, b5, b6, b7, b8⟩ := id hB
  have key : ∀ (j : Nat), j ≤ (sz - 1).toNat → ∀ (c x : Int), x = j → c = sumN (fun i => bI (rd8 wi i ≠ 8)) j → Wp (d + 1) mX0_decidedMatches 4 [mR k, mI c, mI x] [] h (0, 0) (fun r' h' => r' = some (mI (sumN (fun i => bI (rd8 wi i ≠ 8)) (sz - 1).toNat)) ∧ h' = h) := by
    refine loop_up (sz - 1).toNat _ ?_ ?_
    · intro c x hx hc
      refine wp_il2 (q := 5) dX0_decidedMatches_4 rfl (wp_al0 (q := 6) dX0_decidedMatches_5 rfl (wp_getf (q := 9) dX0_decidedMatches_6 rfl f5 b0 b1 rfl (fun z => nomatch z) (wp_ic (q := 10) dX0_decidedMatches_9 rfl (by decide) (by decide) (wp_isub (q := 11) dX0_decidedMatches_10 rfl (by omega) (by omega) (wp_icmp_ge (t := 33) (q := 14) dX0_decidedMatches_11 rfl rfl (fun c11 => ?_) (fun c11 => ?_))))))
      · refine wp_il1 (q := 34) dX0_decidedMatches_33 rfl (wp_iret dX0_decidedMatches_34 rfl ?_)
        exact ⟨rI hc, rfl⟩
      · exfalso; omega
    · intro j hj ih c x hx hc
      have bo := sumN_le (f := fun i => bI (rd8 wi i ≠ 8)) (c := 1) j (fun i _ => by rcases bI_01 (p := rd8 wi i ≠ 8) with e | e <;> rw [e] <;> omega)
      have e1 : sumN (fun i => bI (rd8 wi i ≠ 8)) (j + 1) = sumN (fun i => bI (rd8 wi i ≠ 8)) j + bI (rd8 wi j ≠ 8) := rfl
      rw [← hx] at e1
      refine wp_il2 (q := 5) dX0_decidedMatches_4 rfl (wp_al0 (q := 6) dX0_decidedMatches_5 rfl (wp_getf (q := 9) dX0_decidedMatches_6 rfl f5 b0 b1 rfl (fun z => nomatch z) (wp_ic (q := 10) dX0_decidedMatches_9 rfl (by decide) (by decide) (wp_isub (q := 11) dX0_decidedMatches_10 rfl (by omega) (by omega) (wp_icmp_ge (t := 33) (q := 14) dX0_decidedMatches_11 rfl rfl (fun c11 => ?_) (fun c11 => ?_))))))
      · exfalso; omega
      · refine wp_al0 (q := 15) dX0_decidedMatches_14 rfl (wp_il2 (q := 16) dX0_decidedMatches_15 rfl (wp_v1I (q := 19) dX0_decidedMatches_16 rfl q38 (Nat.le_of_ble_eq_true rfl) rfl b0 b1 rfl rfl (ct_winnerOf d hB) (wp_bi (q := 21) dX0_decidedMatches_19 rfl (by decide) (by decide) (wp_icmp_eq (t := 27) (q := 24) dX0_decidedMatches_21 rfl rfl (fun c21 => ?_) (fun c21 => ?_)))))
        · refine wp_ii2 (q := 30) dX0_decidedMatches_27 rfl rfl (by omega) (by omega) (wp_goto (q := 4) dX0_decidedMatches_30 rfl ?_)
          exact ih _ _ (by omega) (by rw [e1]; first | (rw [bI_t c21]; omega) | (rw [bI_f (fun z => z c21)]; omega))
        · refine wp_ii1 (q := 27) dX0_decidedMatches_24 rfl rfl (by omega) (by omega) (wp_ii2 (q := 30) dX0_decidedMatches_27 rfl rfl (by omega) (by omega) (wp_goto (q := 4) dX0_decidedMatches_30 rfl ?_))
          exact ih _ _ (by omega) (by rw [e1]; first | (rw [bI_t c21]; omega) | (rw [bI_f (fun z => z c21)]; omega))
  show Wp _ mX0_decidedMatches 0 [mR k, mU, mU] [] h (0, 0) _
  refine wp_ic (q := 1) dX0_decidedMatches_0 rfl (by decide) (by decide) (wp_is1 (q := 2) dX0_decidedMatches_1 rfl rfl (wp_ic (q := 3) dX0_decidedMatches_2 rfl (by decide) (by decide) (wp_is2 (q := 4) dX0_decidedMatches_3 rfl rfl ?_)))
  exact key 0 (Nat.zero_le _) 0 0 rfl rfl
theorem ct_placeOf (d : Nat) {h : List mC} {k : Nat} {sz : Int} {pl wi od : List Int} (hB : BrAt h k sz pl wi od) {v : Int} : Rt (d + 1) mX0_placeOf [mR k, mI v] h (some (mI (plO pl sz v))) h := by
  obtain ⟨b0, b1, b2, b3, b4, b5, b6, b7, b8⟩ := id hB
  have key : v ≠ 8 → ∀ (j : Nat), j ≤ sz.toNat → ∀ (x : Int), x = j → fndF (rd8 pl) v sz.toNat (sz.toNat - j) = plO pl sz v → Wp (d + 1) mX0_placeOf 8 [mR k, mI v, mI x] [] h (0, 0) (fun r' h' => r' = some (mI (plO pl sz v)) ∧ h' = h) := by
    intro hv8
    refine loop_up sz.toNat _ ?_ ?_
    · intro x hx hc
      refine wp_il2 (q := 9) dX0_placeOf_8 rfl (wp_al0 (q := 10) dX0_placeOf_9 rfl (wp_getf (q := 13) dX0_placeOf_10 rfl f5 b0 b1 rfl (fun z => nomatch z) (wp_icmp_ge (t := 33) (q := 16) dX0_placeOf_13 rfl rfl (fun c13 => ?_) (fun c13 => ?_))))
      · refine wp_ic (q := 34) dX0_placeOf_33 rfl (by decide) (by decide) (wp_iret dX0_placeOf_34 rfl ?_)
        exact ⟨rI (by rw [← hc, Nat.sub_self]; rfl), rfl⟩
      · exfalso; omega
    · intro j hj ih x hx hc
      have e0 : sz.toNat - j = (sz.toNat - (j + 1)) + 1 := by omega
      rw [e0] at hc
      unfold fndF at hc
      have e1 : ((sz.toNat - (sz.toNat - (j + 1) + 1) : Nat) : Int) = x := by omega
      rw [e1] at hc
      refine wp_il2 (q := 9) dX0_placeOf_8 rfl (wp_al0 (q := 10) dX0_placeOf_9 rfl (wp_getf (q := 13) dX0_placeOf_10 rfl f5 b0 b1 rfl (fun z => nomatch z) (wp_icmp_ge (t := 33) (q := 16) dX0_placeOf_13 rfl rfl (fun c13 => ?_) (fun c13 => ?_))))
      · exfalso; omega
      · refine wp_al0 (q := 17) dX0_placeOf_16 rfl (wp_il2 (q := 18) dX0_placeOf_17 rfl (wp_v1I (q := 21) dX0_placeOf_18 rfl q26 (Nat.le_of_ble_eq_true rfl) rfl b0 b1 rfl rfl (ct_playerAt d hB) (wp_il1 (q := 22) dX0_placeOf_21 rfl (wp_icmp_ne (t := 27) (q := 25) dX0_placeOf_22 rfl rfl (fun c22 => ?_) (fun c22 => ?_)))))
        · refine wp_ii2 (q := 30) dX0_placeOf_27 rfl rfl (by omega) (by omega) (wp_goto (q := 8) dX0_placeOf_30 rfl ?_)
          exact ih _ (by omega) (by rw [if_neg c22] at hc; exact hc)
        · refine wp_il2 (q := 26) dX0_placeOf_25 rfl (wp_iret dX0_placeOf_26 rfl ?_)
          exact ⟨rI (by rw [if_pos c22] at hc; exact hc), rfl⟩
  show Wp _ mX0_placeOf 0 [mR k, mI v, mU] [] h (0, 0) _
  refine wp_il1 (q := 1) dX0_placeOf_0 rfl (wp_bi (q := 3) dX0_placeOf_1 rfl (by decide) (by decide) (wp_icmp_eq (t := 33) (q := 6) dX0_placeOf_3 rfl rfl (fun c3 => ?_) (fun c3 => ?_)))
  · refine wp_ic (q := 34) dX0_placeOf_33 rfl (by decide) (by decide) (wp_iret dX0_placeOf_34 rfl ?_)
    exact ⟨rI (by unfold plO; rw [if_pos c3]), rfl⟩
  · refine wp_ic (q := 7) dX0_placeOf_6 rfl (by decide) (by decide) (wp_is2 (q := 8) dX0_placeOf_7 rfl rfl ?_)
    exact key c3 0 (Nat.zero_le _) 0 rfl (by unfold plO; rw [if_neg c3]; rfl)
theorem ct_kindOf (d : Nat) {h : List mC} {k : Nat} {sz : Int} {pl wi od : List Int} (hB : BrAt h k sz pl wi od) {m : Int} (h0 : 0 ≤ m) (h1 : m < sz - 1) : Rt (d + 2) mX0_kindOf [mR k, mI m] h (some (mI (kdA pl wi sz m))) (h) := by
  obtain ⟨b0, b1, b2, b3, b4, b5, b6, b7, b8⟩ := id hB
  obtain ⟨g1, g2, g3, g4, g5, g6⟩ := fp_in b8 h0 h1
  obtain ⟨r1, r3⟩ := rdO_in sz m
  show Wp _ mX0_kindOf 0 [mR k, mI m, mU, mU, mU, mU, mU] [] h (0, 0) _
  refine wp_al0 (q := 1) dX0_kindOf_0 rfl (wp_il1 (q := 2) dX0_kindOf_1 rfl (wp_v1I (q := 5) dX0_kindOf_2 rfl q46 (Nat.le_of_ble_eq_true rfl) rfl b0 b1 rfl rfl (ct_roundOf d hB h0) (wp_is2 (q := 6) dX0_kindOf_5 rfl rfl (wp_al0 (q := 7) dX0_kindOf_6 rfl (wp_il1 (q := 8) dX0_kindOf_7 rfl (wp_il2 (q := 9) dX0_kindOf_8 rfl (wp_v2I (q := 12) dX0_kindOf_9 rfl q48 (Nat.le_of_ble_eq_true rfl) rfl b0 b1 rfl rfl (ct_firstPlace d hB r1 r3 g1 (by omega)) (wp_is3 (q := 13) dX0_kindOf_12 rfl rfl (wp_il3 (q := 14) dX0_kindOf_13 rfl (wp_ic (q := 15) dX0_kindOf_14 rfl (by decide) (by decide) (wp_il2 (q := 16) dX0_kindOf_15 rfl (wp_ic (q := 17) dX0_kindOf_16 rfl (by decide) (by decide) (wp_isub (q := 18) dX0_kindOf_17 rfl (by omega) (by omega) ?_)))))))))))))
  refine wp_ishl (p2A (rdO sz m - 1)) (q := 19) dX0_kindOf_18 rfl (shl1 (by omega) (by omega)) (wp_iadd (q := 20) dX0_kindOf_19 rfl (by omega) (by omega) (wp_is4 (q := 22) dX0_kindOf_20 rfl rfl (wp_al0 (q := 23) dX0_kindOf_22 rfl (wp_il3 (q := 24) dX0_kindOf_23 rfl (wp_il4 (q := 26) dX0_kindOf_24 rfl (wp_v2I (q := 29) dX0_kindOf_26 rfl q42 (Nat.le_of_ble_eq_true rfl) rfl b0 b1 rfl rfl (ct_playersIn d hB g2 (by omega) (by omega)) (wp_is5 (q := 31) dX0_kindOf_29 rfl rfl (wp_al0 (q := 32) dX0_kindOf_31 rfl (wp_il4 (q := 34) dX0_kindOf_32 rfl (wp_il3 (q := 35) dX0_kindOf_34 rfl (wp_ic (q := 36) dX0_kindOf_35 rfl (by decide) (by decide) (wp_il2 (q := 37) dX0_kindOf_36 rfl (wp_ishl (p2A (rdO sz m)) (q := 38) dX0_kindOf_37 rfl (shl1 (by omega) (by omega)) ?_)))))))))))))
  refine wp_iadd (q := 39) dX0_kindOf_38 rfl (by omega) (by omega) (wp_v2I (q := 42) dX0_kindOf_39 rfl q42 (Nat.le_of_ble_eq_true rfl) rfl b0 b1 rfl rfl (ct_playersIn d hB (by omega) (by omega) (by omega)) (wp_is6 (q := 44) dX0_kindOf_42 rfl rfl (wp_il5 (q := 46) dX0_kindOf_44 rfl (wp_if_ne (t := 56) (q := 49) dX0_kindOf_46 rfl rfl (fun c46 => ?_) (fun c46 => ?_)))))
  · refine wp_il5 (q := 58) dX0_kindOf_56 rfl (wp_if_eq (t := 66) (q := 61) dX0_kindOf_58 rfl rfl (fun c58 => ?_) (fun c58 => ?_))
    · refine wp_ic (q := 67) dX0_kindOf_66 rfl (by decide) (by decide) (wp_iret dX0_kindOf_67 rfl ?_)
      refine ⟨rI ?_, rfl⟩
      unfold kdA
      (repeat' split) <;> omega
    · refine wp_il6 (q := 63) dX0_kindOf_61 rfl (wp_if_ne (t := 68) (q := 66) dX0_kindOf_63 rfl rfl (fun c63 => ?_) (fun c63 => ?_))
      · refine wp_al0 (q := 69) dX0_kindOf_68 rfl (wp_il1 (q := 70) dX0_kindOf_69 rfl (wp_v1I (q := 73) dX0_kindOf_70 rfl q38 (Nat.le_of_ble_eq_true rfl) rfl b0 b1 rfl rfl ((ct_winnerOf d hB).deep 1) (wp_bi (q := 75) dX0_kindOf_73 rfl (by decide) (by decide) (wp_icmp_ne (t := 82) (q := 78) dX0_kindOf_75 rfl rfl (fun c75 => ?_) (fun c75 => ?_)))))
        · refine wp_ic (q := 83) dX0_kindOf_82 rfl (by decide) (by decide) (wp_iret dX0_kindOf_83 rfl ?_)
          refine ⟨rI ?_, rfl⟩
          unfold kdA
          (repeat' split) <;> omega
        · refine wp_ic (q := 79) dX0_kindOf_78 rfl (by decide) (by decide) (wp_goto (q := 83) dX0_kindOf_79 rfl (wp_iret dX0_kindOf_83 rfl ?_))
          refine ⟨rI ?_, rfl⟩
          unfold kdA
          (repeat' split) <;> omega
      · refine wp_ic (q := 67) dX0_kindOf_66 rfl (by decide) (by decide) (wp_iret dX0_kindOf_67 rfl ?_)
        refine ⟨rI ?_, rfl⟩
        unfold kdA
        (repeat' split) <;> omega
  · refine wp_il6 (q := 51) dX0_kindOf_49 rfl (wp_if_ne (t := 56) (q := 54) dX0_kindOf_51 rfl rfl (fun c51 => ?_) (fun c51 => ?_))
    · refine wp_il5 (q := 58) dX0_kindOf_56 rfl (wp_if_eq (t := 66) (q := 61) dX0_kindOf_58 rfl rfl (fun c58 => ?_) (fun c58 => ?_))
      · refine wp_ic (q := 67) dX0_kindOf_66 rfl (by decide) (by decide) (wp_iret dX0_kindOf_67 rfl ?_)
        refine ⟨rI ?_, rfl⟩
        unfold kdA
        (repeat' split) <;> omega
      · refine wp_il6 (q := 63) dX0_kindOf_61 rfl (wp_if_ne (t := 68) (q := 66) dX0_kindOf_63 rfl rfl (fun c63 => ?_) (fun c63 => ?_))
        · refine wp_al0 (q := 69) dX0_kindOf_68 rfl (wp_il1 (q := 70) dX0_kindOf_69 rfl (wp_v1I (q := 73) dX0_kindOf_70 rfl q38 (Nat.le_of_ble_eq_true rfl) rfl b0 b1 rfl rfl ((ct_winnerOf d hB).deep 1) (wp_bi (q := 75) dX0_kindOf_73 rfl (by decide) (by decide) (wp_icmp_ne (t := 82) (q := 78) dX0_kindOf_75 rfl rfl (fun c75 => ?_) (fun c75 => ?_)))))
          · refine wp_ic (q := 83) dX0_kindOf_82 rfl (by decide) (by decide) (wp_iret dX0_kindOf_83 rfl ?_)
            refine ⟨rI ?_, rfl⟩
            unfold kdA
            (repeat' split) <;> omega
          · refine wp_ic (q := 79) dX0_kindOf_78 rfl (by decide) (by decide) (wp_goto (q := 83) dX0_kindOf_79 rfl (wp_iret dX0_kindOf_83 rfl ?_))
            refine ⟨rI ?_, rfl⟩
            unfold kdA
            (repeat' split) <;> omega
        · refine wp_ic (q := 67) dX0_kindOf_66 rfl (by decide) (by decide) (wp_iret dX0_kindOf_67 rfl ?_)
          refine ⟨rI ?_, rfl⟩
          unfold kdA
          (repeat' split) <;> omega
    · refine wp_ic (q := 55) dX0_kindOf_54 rfl (by decide) (by decide) (wp_iret dX0_kindOf_55 rfl ?_)
      refine ⟨rI ?_, rfl⟩
      unfold kdA
      (repeat' split) <;> omega
theorem ct_oddsOf (d : Nat) {h : List mC} {k : Nat} {sz : Int} {pl wi od : List Int} (hB : BrAt h k sz pl wi od) {r x : Int} (hr0 : -10 ≤ r) (hr : r ≤ 10) (hx0 : -10 ≤ x) (hx : x ≤ 10) : Rt (d + 0) mX0_oddsOf [mR k, mI r, mI x] h (some (mL (odA od r x))) (h) := by
  obtain ⟨b0, b1, b2, b3, b4, b5, b6, b7, b8⟩ := id hB
  show Wp _ mX0_oddsOf 0 [mR k, mI r, mI x, mU] [] h (0, 0) _
  refine wp_il1 (q := 1) dX0_oddsOf_0 rfl (wp_bi (q := 3) dX0_oddsOf_1 rfl (by decide) (by decide) (wp_imul (q := 4) dX0_oddsOf_3 rfl (by omega) (by omega) (wp_il2 (q := 5) dX0_oddsOf_4 rfl (wp_iadd (q := 6) dX0_oddsOf_5 rfl (by omega) (by omega) (wp_is3 (q := 7) dX0_oddsOf_6 rfl rfl (wp_il2 (q := 8) dX0_oddsOf_7 rfl (wp_if_lt (t := 39) (q := 11) dX0_oddsOf_8 rfl rfl (fun c8 => ?_) (fun c8 => ?_))))))))
  · refine wp_lc0 (q := 40) dX0_oddsOf_39 rfl (wp_lret dX0_oddsOf_40 rfl ?_)
    exact ⟨by unfold odA gI; first | rw [if_pos (by omega)] | rw [if_neg (by omega)], rfl⟩
  · refine wp_il2 (q := 12) dX0_oddsOf_11 rfl (wp_bi (q := 14) dX0_oddsOf_12 rfl (by decide) (by decide) (wp_icmp_ge (t := 39) (q := 17) dX0_oddsOf_14 rfl rfl (fun c14 => ?_) (fun c14 => ?_)))
    · refine wp_lc0 (q := 40) dX0_oddsOf_39 rfl (wp_lret dX0_oddsOf_40 rfl ?_)
      exact ⟨by unfold odA gI; first | rw [if_pos (by omega)] | rw [if_neg (by omega)], rfl⟩
    · refine wp_il3 (q := 18) dX0_oddsOf_17 rfl (wp_if_lt (t := 39) (q := 21) dX0_oddsOf_18 rfl rfl (fun c18 => ?_) (fun c18 => ?_))
      · refine wp_lc0 (q := 40) dX0_oddsOf_39 rfl (wp_lret dX0_oddsOf_40 rfl ?_)
        exact ⟨by unfold odA gI; first | rw [if_pos (by omega)] | rw [if_neg (by omega)], rfl⟩
      · refine wp_il3 (q := 22) dX0_oddsOf_21 rfl (wp_al0 (q := 23) dX0_oddsOf_22 rfl (wp_getf (q := 26) dX0_oddsOf_23 rfl f10 b0 b1 rfl (fun z => nomatch z) (wp_alenl (q := 27) dX0_oddsOf_26 rfl b4 (by omega) (wp_icmp_ge (t := 39) (q := 30) dX0_oddsOf_27 rfl rfl (fun c27 => ?_) (fun c27 => ?_)))))
        · refine wp_lc0 (q := 40) dX0_oddsOf_39 rfl (wp_lret dX0_oddsOf_40 rfl ?_)
          exact ⟨by unfold odA gI; first | rw [if_pos (by omega)] | rw [if_neg (by omega)], rfl⟩
        · refine wp_al0 (q := 31) dX0_oddsOf_30 rfl (wp_getf (q := 34) dX0_oddsOf_31 rfl f10 b0 b1 rfl (fun z => nomatch z) (wp_il3 (q := 35) dX0_oddsOf_34 rfl (wp_laload (q := 36) dX0_oddsOf_35 rfl b4 (by omega) (by omega) (wp_goto (q := 40) dX0_oddsOf_36 rfl (wp_lret dX0_oddsOf_40 rfl ?_)))))
          exact ⟨by unfold odA gI; first | rw [if_pos (by omega)] | rw [if_neg (by omega)], rfl⟩
theorem ct_setOddsB (d : Nat) {h : List mC} {k : Nat} {sz : Int} {pl wi od : List Int} (hB : BrAt h k sz pl wi od) {r x v : Int} (hr0 : 0 ≤ r) (hr : r ≤ 3) (hx0 : 0 ≤ x) (hx : x < 8) : Rt (d + 0) mX0_setOdds [mR k, mI r, mI x, mL v] h (none) (h.set (k + 3) (mJ (sI od (r * 8 + x) v))) := by
  obtain ⟨b0, b1, b2, b3, b4, b5, b6, b7, b8⟩ := id hB
  show Wp _ mX0_setOdds 0 [mR k, mI r, mI x, mL v, mU, mU] [] h (0, 0) _
  refine wp_il1 (q := 1) dX0_setOdds_0 rfl (wp_bi (q := 3) dX0_setOdds_1 rfl (by decide) (by decide) (wp_imul (q := 4) dX0_setOdds_3 rfl (by omega) (by omega) (wp_il2 (q := 5) dX0_setOdds_4 rfl (wp_iadd (q := 6) dX0_setOdds_5 rfl (by omega) (by omega) (wp_is5 (q := 8) dX0_setOdds_6 rfl rfl (wp_il2 (q := 9) dX0_setOdds_8 rfl (wp_if_lt (t := 41) (q := 12) dX0_setOdds_9 rfl rfl (fun c9 => ?_) (fun c9 => ?_))))))))
  · exfalso; omega
  · refine wp_il2 (q := 13) dX0_setOdds_12 rfl (wp_bi (q := 15) dX0_setOdds_13 rfl (by decide) (by decide) (wp_icmp_ge (t := 41) (q := 18) dX0_setOdds_15 rfl rfl (fun c15 => ?_) (fun c15 => ?_)))
    · exfalso; omega
    · refine wp_il5 (q := 20) dX0_setOdds_18 rfl (wp_if_lt (t := 41) (q := 23) dX0_setOdds_20 rfl rfl (fun c20 => ?_) (fun c20 => ?_))
      · exfalso; omega
      · refine wp_il5 (q := 25) dX0_setOdds_23 rfl (wp_al0 (q := 26) dX0_setOdds_25 rfl (wp_getf (q := 29) dX0_setOdds_26 rfl f10 b0 b1 rfl (fun z => nomatch z) (wp_alenl (q := 30) dX0_setOdds_29 rfl b4 (by omega) (wp_icmp_ge (t := 41) (q := 33) dX0_setOdds_30 rfl rfl (fun c30 => ?_) (fun c30 => ?_)))))
        · exfalso; omega
        · refine wp_al0 (q := 34) dX0_setOdds_33 rfl (wp_getf (q := 37) dX0_setOdds_34 rfl f10 b0 b1 rfl (fun z => nomatch z) (wp_il5 (q := 39) dX0_setOdds_37 rfl (wp_ll3 (q := 40) dX0_setOdds_39 rfl (wp_lastore (q := 41) dX0_setOdds_40 rfl (by omega) b4 (by omega) (by omega) (wp_vret dX0_setOdds_41 rfl ?_)))))
          exact ⟨rfl, rfl⟩
theorem ct_openAll (d : Nat) {h : List mC} {k : Nat} {sz : Int} {pl wi od : List Int} (hB : BrAt h k sz pl wi od)  : Rt (d + 1) mX0_openAll [mR k] h (none) (h.set (k + 2) (mA (List.replicate 8 8))) := by
  obtain ⟨b0, b1, b2, b3, b4, b5, b6, b7, b8⟩ := id hB
  show Wp _ mX0_openAll 0 [mR k] [] h (0, 0) _
  refine wp_al0 (q := 1) dX0_openAll_0 rfl (wp_getf (q := 4) dX0_openAll_1 rfl f9 b0 b1 rfl (fun z => nomatch z) (wp_bi (q := 6) dX0_openAll_4 rfl (by decide) (by decide) (wp_s2V (q := 9) dX0_openAll_6 rfl q7 (Nat.le_of_ble_eq_true rfl) rfl rfl rfl (by have := ct_fill d (v := 8) (by omega) b3 (by omega); rw [b6] at this; exact this) (wp_vret dX0_openAll_9 rfl ?_))))
  exact ⟨rfl, rfl⟩
theorem ct_clear (d : Nat) {h : List mC} {k : Nat} {sz : Int} {pl wi od : List Int} (hB : BrAt h k sz pl wi od)  : Rt (d + 2) mX0_clear [mR k] h (none) ((h.set (k + 1) (mA (List.replicate 8 8))).set (k + 2) (mA (List.replicate 8 8))) := by
  obtain ⟨b0, b1, b2, b3, b4, b5, b6, b7, b8⟩ := id hB
  show Wp _ mX0_clear 0 [mR k] [] h (0, 0) _
  refine wp_al0 (q := 1) dX0_clear_0 rfl (wp_getf (q := 4) dX0_clear_1 rfl f8 b0 b1 rfl (fun z => nomatch z) (wp_bi (q := 6) dX0_clear_4 rfl (by decide) (by decide) (wp_s2V (q := 9) dX0_clear_6 rfl q7 (Nat.le_of_ble_eq_true rfl) rfl rfl rfl ((by have := ct_fill d (v := 8) (by omega) b2 (by omega); rw [b5] at this; exact this : Rt (d + 0) _ _ _ _ _).deep 1) ?_)))
  have hB := hB.setP (pl' := List.replicate 8 8) (by rw [List.length_replicate])
  obtain ⟨b0, b1, b2, b3, b4, b5, b6, b7, b8⟩ := id hB
  refine wp_al0 (q := 10) dX0_clear_9 rfl (wp_v0V (q := 13) dX0_clear_10 rfl q8 (Nat.le_of_ble_eq_true rfl) rfl b0 b1 rfl rfl (ct_openAll d hB) (wp_vret dX0_clear_13 rfl ?_))
  exact ⟨rfl, rfl⟩
theorem ct_resize (d : Nat) {h : List mC} {k : Nat} {sz : Int} {pl wi od : List Int} (hB : BrAt h k sz pl wi od) {sz' : Int} (hs : sz' = 2 ∨ sz' = 4 ∨ sz' = 8) : Rt (d + 3) mX0_resize [mR k, mI sz'] h (none) (((h.set k (mO 0 [mI sz', mR (k + 1), mR (k + 2), mR (k + 3)])).set (k + 1) (mA (List.replicate 8 8))).set (k + 2) (mA (List.replicate 8 8))) := by
  obtain ⟨b0, b1, b2, b3, b4, b5, b6, b7, b8⟩ := id hB
  show Wp _ mX0_resize 0 [mR k, mI sz'] [] h (0, 0) _
  refine wp_al0 (q := 1) dX0_resize_0 rfl (wp_il1 (q := 2) dX0_resize_1 rfl (wp_putf (q := 5) dX0_resize_2 rfl f5 b0 b1 (Nat.le_of_ble_eq_true rfl) trivial (fun z => absurd z (by decide)) ?_))
  have hB := hB.setS hs
  obtain ⟨b0, b1, b2, b3, b4, b5, b6, b7, b8⟩ := id hB
  refine wp_al0 (q := 6) dX0_resize_5 rfl (wp_v0V (q := 9) dX0_resize_6 rfl q6 (Nat.le_of_ble_eq_true rfl) rfl b0 b1 rfl rfl (ct_clear d hB) (wp_vret dX0_resize_9 rfl ?_))
  exact ⟨rfl, rfl⟩
def upW (sz : Int) : Nat → Int → List Int → List Int
  | 0, _, wi => wi
  | n + 1, m, wi => if 0 ≤ m ∧ m < sz - 1 then upW sz n ((sz + m) / 2) (sI wi m 8) else wi
theorem upW_len (sz : Int) : ∀ (n : Nat) (m : Int) (wi : List Int), (upW sz n m wi).length = wi.length
  | 0, _, _ => rfl
  | n + 1, m, wi => by
    unfold upW
    split
    · rw [upW_len sz n, sI_len]
    · rfl
theorem ct_openUpwards (d : Nat) {h : List mC} {k : Nat} {sz : Int} {pl wi od : List Int} (hB : BrAt h k sz pl wi od) {m : Int} (hm0 : 0 ≤ m) (hm : m < 100) : Rt (d + 1) mX0_openUpwards [mR k, mI m] h none (h.set (k + 2) (mA (upW sz 3 m wi))) := by
  obtain ⟨b0, b1, b2, b3, b4, b5, b6, b7, b8⟩ := id hB
  obtain ⟨T, hT⟩ : ∃ T, T = upW sz 3 m wi := ⟨_, rfl⟩
  rw [← hT]
  have key : ∀ (j : Nat), j ≤ 3 → ∀ (h1 : List mC) (w1 : List Int) (x y : Int), x = j → 0 ≤ y → y < 100 → BrAt h1 k sz pl w1 od → h1.set (k + 2) (mA (upW sz (3 - j) y w1)) = h.set (k + 2) (mA (T)) → Wp (d + 1) mX0_openUpwards 4 [mR k, mI m, mI y, mI x] [] h1 (0, 0) (fun r' h' => r' = none ∧ h' = h.set (k + 2) (mA (T))) := by
    refine loop_up 3 _ ?_ ?_
    · intro h1 w1 x y hx hy0 hy hB he
      obtain ⟨b0, b1, b2, b3, b4, b5, b6, b7, b8⟩ := id hB
      refine wp_il3 (q := 5) dX0_openUpwards_4 rfl (wp_ic (q := 6) dX0_openUpwards_5 rfl (by decide) (by decide) (wp_icmp_ge (t := 39) (q := 9) dX0_openUpwards_6 rfl rfl (fun c6 => ?_) (fun c6 => ?_)))
      · refine wp_vret dX0_openUpwards_39 rfl ?_
        refine ⟨rfl, ?_⟩
        rw [← he]
        exact (gs_id b3).symm
      · exfalso; omega
    · intro j hj ih h1 w1 x y hx hy0 hy hB he
      obtain ⟨b0, b1, b2, b3, b4, b5, b6, b7, b8⟩ := id hB
      rw [show 3 - j = (3 - (j + 1)) + 1 by omega] at he
      unfold upW at he
      refine wp_il3 (q := 5) dX0_openUpwards_4 rfl (wp_ic (q := 6) dX0_openUpwards_5 rfl (by decide) (by decide) (wp_icmp_ge (t := 39) (q := 9) dX0_openUpwards_6 rfl rfl (fun c6 => ?_) (fun c6 => ?_)))
      · exfalso; omega
      · refine wp_al0 (q := 10) dX0_openUpwards_9 rfl (wp_il2 (q := 11) dX0_openUpwards_10 rfl (wp_v1I (q := 14) dX0_openUpwards_11 rfl q58 (Nat.le_of_ble_eq_true rfl) rfl b0 b1 rfl rfl (ct_hasMatch d hB) (wp_ifb_eq (t := 39) (q := 17) dX0_openUpwards_14 rfl rfl (fun c14 => ?_) (fun c14 => ?_))))
        · refine wp_vret dX0_openUpwards_39 rfl ?_
          refine ⟨rfl, ?_⟩
          rw [if_neg c14] at he
          rw [← he]
          exact (gs_id b3).symm
        · refine wp_al0 (q := 18) dX0_openUpwards_17 rfl (wp_il2 (q := 19) dX0_openUpwards_18 rfl (wp_bi (q := 21) dX0_openUpwards_19 rfl (by decide) (by decide) (wp_v2V (q := 24) dX0_openUpwards_21 rfl q59 (Nat.le_of_ble_eq_true rfl) rfl b0 b1 rfl rfl (ct_setWinner d hB (by omega) (by omega)) ?_)))
          have hB := hB.setW (wi' := sI w1 y 8) (by rw [sI_len]; exact b6)
          obtain ⟨b0, b1, b2, b3, b4, b5, b6, b7, b8⟩ := id hB
          refine wp_al0 (q := 25) dX0_openUpwards_24 rfl (wp_getf (q := 28) dX0_openUpwards_25 rfl f5 b0 b1 rfl (fun z => nomatch z) (wp_il2 (q := 29) dX0_openUpwards_28 rfl (wp_iadd (q := 30) dX0_openUpwards_29 rfl (by omega) (by omega) (wp_ic (q := 31) dX0_openUpwards_30 rfl (by decide) (by decide) (wp_ishr ((sz + y) / 2) (q := 32) dX0_openUpwards_31 rfl (shr1 (by omega) (by omega)) (wp_is2 (q := 33) dX0_openUpwards_32 rfl rfl (wp_ii3 (q := 36) dX0_openUpwards_33 rfl rfl (by omega) (by omega) (wp_goto (q := 4) dX0_openUpwards_36 rfl ?_))))))))
          exact ih _ _ _ _ (by omega) (by omega) (by omega) hB (by rw [if_pos c14] at he; rw [gs_ss]; exact he)
  show Wp _ mX0_openUpwards 0 [mR k, mI m, mU, mU] [] h (0, 0) _
  refine wp_il1 (q := 1) dX0_openUpwards_0 rfl (wp_is2 (q := 2) dX0_openUpwards_1 rfl rfl (wp_ic (q := 3) dX0_openUpwards_2 rfl (by decide) (by decide) (wp_is3 (q := 4) dX0_openUpwards_3 rfl rfl ?_)))
  exact key 0 (Nat.zero_le _) h wi 0 m rfl hm0 hm hB (by rw [hT])
