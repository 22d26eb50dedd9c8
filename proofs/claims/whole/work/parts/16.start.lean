/-! the claim's start, out of the small machine's run of the law -/
theorem arr_known {s : State} {args : Array Value} {ty : FieldType} (hty : ∀ n, ty ≠ .object n) (h : (Cond.arrayClass ty).before args s = true) : ∃ cA, ArrOfT s cA ty ∧ va_RA s cA ty := by
  obtain ⟨cA, kA, comp, h1, h2, h3⟩ := Cond.arrayClass_spec h
  refine ⟨cA, fun n z => ⟨fun k h => (by cases h), kA, h2, comp, h3⟩, ?_⟩
  cases ty with
  | object n => exact absurd rfl (hty n)
  | _ => exact h1
set_option maxHeartbeats 4000000 in
set_option maxRecDepth 100000 in
theorem start_of (hlaw : ∀ xl : List Int, xl.length ≤ 2560 → (∀ x ∈ xl, inI x) → Wp 40 mL_law 0 (mArgs 4 [mR 1]) [] [mJ mPT, mA xl] (30, 8763) (fun r _ => r = some (mI 1)))
    {p : Program} {e : Env} {s : State} {m : MethodId} {below : List Frame} {meth : Method} {c : Code} (l : Launch) {b L : Nat} {xs : Nat → Int32} (hL : L ≤ 2560) (C0 : lw_At p s m meth c b L xs) : W p l e room_1 s m #[Value.ref b] below meth c s.heap [] 0 0 (lw_Z below #[Value.ref b] s) (entryFrame m ([Value.ref b] : List Value).toArray 4) := by
  obtain ⟨hx, hb, hr, hml, hown, htsl, hX, hbl, hlocks, hgv⟩ := id C0
  have hts : ∀ w ∈ gT, w.before #[Value.ref b] s = true := fun w hw => htsl w (List.mem_filter.mp hw).1
  obtain ⟨c0, iS0, hKn0⟩ := u_known (C := RX0) (T := TX0) (N := 4) (n := 4) hts inX0 (by obtain ⟨r, h1, h2, h3, h4⟩ := n2; cases h1; exact hts _ h3)
  obtain ⟨c1, iS1, hKn1⟩ := u_known (C := RX1) (T := TX1) (N := 4) (n := 4) hts inX1 (by obtain ⟨r, h1, h2, h3, h4⟩ := n3; cases h1; exact hts _ h3)
  obtain ⟨c2, iS2, hKn2⟩ := u_known (C := RX2) (T := TX2) (N := 3) (n := 3) hts inX2 (by obtain ⟨r, h1, h2, h3, h4⟩ := n1; cases h1; exact hts _ h3)
  obtain ⟨c3, iS3, hKn3⟩ := u_known (C := RX3) (T := TX3) (N := 6) (n := 6) hts inX3 (by obtain ⟨r, h1, h2, h3, h4⟩ := n0; cases h1; exact hts _ h3)
  obtain ⟨c4, iS4, hKn4⟩ := u_known (C := RX4) (T := TX4) (N := 19) (n := 19) hts inX4 (by obtain ⟨r, h1, h2, h3, h4⟩ := n4; cases h1; exact hts _ h3)
  obtain ⟨cI, hcI⟩ := arr_known (fun n h => (by cases h)) (hts _ aI)
  obtain ⟨cJ, hcJ⟩ := arr_known (fun n h => (by cases h)) (hts _ aJ)
  obtain ⟨dC, dI, hKc⟩ : ∃ (dC : Nat → ClassId) (dI : Nat → Nat → Nat), ∀ (k : Nat) (q : vw_C), vwCl[k]? = some q → u_Kn s q.1 q.2.1 q.2.2 (dC k) (dI k) := by
    refine ⟨fun k => if k = 0 then c0 else if k = 1 then c1 else if k = 2 then c2 else if k = 3 then c3 else c4, fun k => if k = 0 then iS0 else if k = 1 then iS1 else if k = 2 then iS2 else if k = 3 then iS3 else iS4, ?_⟩
    intro k q hq
    match k, hq with
    | 0, hq => cases hq; exact hKn0
    | 1, hq => cases hq; exact hKn1
    | 2, hq => cases hq; exact hKn2
    | 3, hq => cases hq; exact hKn3
    | 4, hq => cases hq; exact hKn4
    | k + 5, hq => simp [vwCl] at hq
  have hK : va_K (dC, dI) vwCl [(cI, .int), (cJ, .long)] s := by
    refine ⟨hKc, fun k q hq => ?_⟩
    match k, hq with
    | 0, hq => cases hq; exact hcI
    | 1, hq => cases hq; exact hcJ
    | k + 2, hq => simp at hq
  have hg := flat_of_before _ hgv
  have hAn : ∀ a : Nat, a < s.heap.size → ¬ (fun q : Nat => s.heap.size ≤ q) a := fun a h q => Nat.not_le.mpr h q
  obtain ⟨t0, ht0, hTb⟩ := va_Tof (tm := .static "CupDraws" "PARTS" "[J") (ty := .long) (N := 4) (f := fun j => .long (Int64.ofInt (mPT.getD j 0))) (A := fun q : Nat => s.heap.size ≤ q) (by decide) (hg _ (by decide +kernel)) (va_eqt (hg _ (by decide +kernel)))
    (fun j hj => by
      match j, hj with
      | 0, _ => exact va_eqtl (z := 1) (hg _ (by decide +kernel))
      | 1, _ => exact va_eqtl (z := 12) (hg _ (by decide +kernel))
      | 2, _ => exact va_eqtl (z := 1728) (hg _ (by decide +kernel))
      | 3, _ => exact va_eqtl (z := 35831808) (hg _ (by decide +kernel))
      | j + 4, hj => omega) hAn
  have hZ : va_Z "CupDraws" "PARTS" "[J" (.ref t0) (fun q => s.heap.size ≤ q) s s.heap := va_Zof (htsl _ stS) (hts _ stI) ht0 hAn
  let xl : List Int := (List.range L).map (fun j => (xs j).toInt)
  have hxl : xl.length = L := by simp [xl]
  have hxi : ∀ x ∈ xl, inI x := by
    intro x hx
    obtain ⟨j, -, rfl⟩ := List.mem_map.mp hx
    exact cI_in _
  have hX2 : va_X b xl.length (fun j => Int32.ofInt (xl.getD j 0)) s s.heap := by
    obtain ⟨scr, h1, h2, h3, h4, h5⟩ := hX
    refine ⟨scr, h1, h2, h3, h4.trans hxl.symm, fun j hj => ?_⟩
    rw [hxl] at hj
    rw [h5 j hj]
    congr 2
    show xs j = Int32.ofInt (xl.getD j 0)
    rw [List.getD_eq_getElem?_getD]
    simp only [xl, List.getElem?_map, List.getElem?_range hj, Option.map_some, Option.getD_some, Int32.ofInt_toInt]
  have htl : t0 < s.heap.size := by
    obtain ⟨cell, h1, -⟩ := hTb
    exact (Array.getElem?_eq_some_iff.mp h1).1
  have hG : mGl s.heap.size t0 b xl s s.heap := ⟨hZ, hTb, hX2, hbl, htl, Nat.le_refl _⟩
  have hN : mNs s := fun own idx y hw => va_Nw.of rfl (htsl _ hw)
  have hma : (mArgs (mMax mL_law) [mR 1]).length = mMax mL_law := by decide
  have has := mArgs_has (ad := [t0, b]) (As := [mR 1]) (n := 4) hma
  rw [lg_entry_eq]
  refine m_sound (l := l) (dC := dC) (dI := dI) (cI := cI) (cJ := cJ) (z0 := s.heap.size) (t0 := t0) (b0 := b) (xs := xl) _ _ _ _ _ _ _ _ (hlaw xl (by omega) hxi) p e room_1 s m #[Value.ref b] below meth c s.heap [] 0 0 30 8763 (lw_Z below #[Value.ref b] s) _ [t0, b] (fun q => s.heap.size ≤ q)
    ⟨hx, hb, hml, hr, hown, hts, hlocks, fun h => absurd h (by decide), hK, hG, hN, fun _ q => q, fun _ q => q, ⟨by decide, by decide⟩, ⟨by decide, by decide⟩⟩ ?_ ⟨(fun v hv => by cases hv), ?_, has, hma⟩ ⟨rfl, rfl⟩ ?_
  · refine ⟨fun k q hq => ?_, ⟨fun i j p q hq => ?_, fun k q hq => ?_⟩, va_S.rf, ?_, rfl, rfl, rfl, rfl, rfl⟩
    · simp [mwd] at hq
    · simp [mwd] at hq
    · simp [mwd] at hq
    · intro ce hce
      rcases List.mem_cons.mp hce with rfl | hce
      · intro x hx
        have : ∀ x ∈ mPT, 0 ≤ x ∧ x ≤ 35831808 := by decide
        have := this x hx
        exact ⟨by omega, by omega⟩
      · rw [List.mem_singleton.mp hce]
        exact hxi
  · intro v hv
    have : v = mR 1 ∨ v = mU := by
      have h4 : mArgs 4 [mR 1] = [mR 1, mU, mU, mU] := by decide
      have hv : v ∈ mArgs 4 [mR 1] := hv
      rw [h4] at hv
      simp at hv
      exact hv
    rcases this with rfl | rfl
    · show 1 < 2
      decide
    · trivial
  · intro pc' i len r S' h' ex H' locs' cells' slots' ls' hd hrr hq hW' hS' hc' hs'
    subst hq
    cases i <;> simp only [mRR] at hrr
    · obtain ⟨x, rfl, rfl, -, he⟩ := hrr
      have : x = 1 := by injection he with he; injection he with he; exact he.symm
      subst this
      refine va_forget (fun q hq => hW'.2.2.1.2.2 q hq) ?_
      exact W.widen (k := 600000) (n := 7302250) (by omega) (by omega) (lw_ret hx hb hr hlocks hd)
    · obtain ⟨x, rfl, rfl, -, he⟩ := hrr
      cases he
    · obtain ⟨-, -, -, he⟩ := hrr
      cases he
