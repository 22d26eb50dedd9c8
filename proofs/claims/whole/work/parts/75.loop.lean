/-! the law: every script (rows laid by wip/whole) -/
theorem lw_loop {xl : List Int} (hl : xl.length ≤ 2560) {Q : Option mV → List mC → Prop} (hQ : ∀ h, Q (some (mI 1)) h) : ∀ (m : Nat) (h : List mC) (n sz : Nat) (ch ro pl wi : List Int) (i : Int), (xl.length : Int) - i < m → 0 ≤ i → i ≤ 2600 → h[1]? = some (mA xl) → CS h 2 n sz ch ro pl wi → MS h 18 n sz ch ro pl wi → Inv n sz ch ro pl wi → Wp 40 mL_law 18 [mR 1, mR 2, mR 18, mI i] [] h (0, 0) Q
  | 0, h, n, sz, ch, ro, pl, wi, i, hm, i0, i1, c1, hS, hMS, hI => by
    refine wp_il3 (q := 19) dL_law_18 rfl (wp_al0 (q := 20) dL_law_19 rfl (wp_aleni (q := 21) dL_law_20 rfl c1 (by omega) (wp_ic (q := 22) dL_law_21 rfl (by decide) (by decide) (wp_isub (q := 23) dL_law_22 rfl (by omega) (by omega) (wp_icmp_gt (t := 875) (q := 26) dL_law_23 rfl rfl (fun c23 => ?_) (fun c23 => ?_))))))
    · refine wp_ic (q := 876) dL_law_875 rfl (by decide) (by decide) (wp_bret dL_law_876 rfl (by first | exact Or.inl rfl | exact Or.inr rfl | exact bI_01) ?_)
      exact hQ _
    · exfalso; omega
  | m + 1, h, n, sz, ch, ro, pl, wi, i, hm, i0, i1, c1, hS, hMS, hI => by
    have ih := fun h n sz ch ro pl wi i => lw_loop hl hQ m h n sz ch ro pl wi i
    refine wp_il3 (q := 19) dL_law_18 rfl (wp_al0 (q := 20) dL_law_19 rfl (wp_aleni (q := 21) dL_law_20 rfl c1 (by omega) (wp_ic (q := 22) dL_law_21 rfl (by decide) (by decide) (wp_isub (q := 23) dL_law_22 rfl (by omega) (by omega) (wp_icmp_gt (t := 875) (q := 26) dL_law_23 rfl rfl (fun c23 => ?_) (fun c23 => ?_))))))
    · refine wp_ic (q := 876) dL_law_875 rfl (by decide) (by decide) (wp_bret dL_law_876 rfl (by first | exact Or.inl rfl | exact Or.inr rfl | exact bI_01) ?_)
      exact hQ _
    · have i5 : i + 5 ≤ (xl.length : Int) := by omega
      have hnext : LwN xl i Q := by
        intro h2 n2 sz2 ch2 ro2 pl2 wi2 d1 dS dM dI
        refine wp_ii3 (q := 872) dL_law_869 rfl rfl (by omega) (by omega) (wp_goto (q := 18) dL_law_872 rfl ?_)
        exact ih h2 n2 sz2 ch2 ro2 pl2 wi2 (i + 5) (by omega) (by omega) (by omega) d1 dS dM dI
      refine wp_al0 (q := 27) dL_law_26 rfl (wp_il3 (q := 28) dL_law_27 rfl (wp_iaload (q := 29) dL_law_28 rfl c1 (by omega) (by omega) (wp_bi (q := 31) dL_law_29 rfl (by decide) (by decide) (wp_iand _ (q := 32) dL_law_31 rfl rfl ?_))))
      generalize mAnd (xl.getD i.toNat 0) 31 = V
      rcases (show V = 0 ∨ V = 1 ∨ V = 2 ∨ V = 3 ∨ V = 4 ∨ V = 5 ∨ V = 6 ∨ V = 7 ∨ V = 8 ∨ V = 9 ∨ V = 10 ∨ V = 11 ∨ V = 12 ∨ V = 13 ∨ V = 14 ∨ V = 15 ∨ V = 16 ∨ V = 17 ∨ V = 18 ∨ V = 19 ∨ V = 20 ∨ (V < 0 ∨ 20 < V) by omega) with rfl | rfl | rfl | rfl | rfl | rfl | rfl | rfl | rfl | rfl | rfl | rfl | rfl | rfl | rfl | rfl | rfl | rfl | rfl | rfl | rfl | hts
      · refine wp_tsi (off := 100) (t := 132) dL_law_32 (by decide) (by decide) (by decide) rfl ?_
        exact lw_players hl i0 i5 c1 hS hMS hI hnext
      · refine wp_tsi (off := 123) (t := 155) dL_law_32 (by decide) (by decide) (by decide) rfl ?_
        exact lw_chance hl i0 i5 c1 hS hMS hI hnext
      · refine wp_tsi (off := 166) (t := 198) dL_law_32 (by decide) (by decide) (by decide) rfl ?_
        exact lw_apart hl i0 i5 c1 hS hMS hI hnext
      · refine wp_tsi (off := 209) (t := 241) dL_law_32 (by decide) (by decide) (by decide) rfl ?_
        exact lw_cup hl i0 i5 c1 hS hMS hI hnext
      · refine wp_tsi (off := 232) (t := 264) dL_law_32 (by decide) (by decide) (by decide) rfl ?_
        exact lw_put hl i0 i5 c1 hS hMS hI hnext
      · refine wp_tsi (off := 265) (t := 297) dL_law_32 (by decide) (by decide) (by decide) rfl ?_
        exact lw_at hl i0 i5 c1 hS hMS hI hnext
      · refine wp_tsi (off := 288) (t := 320) dL_law_32 (by decide) (by decide) (by decide) rfl ?_
        exact lw_won hl i0 i5 c1 hS hMS hI hnext
      · refine wp_tsi (off := 321) (t := 353) dL_law_32 (by decide) (by decide) (by decide) rfl ?_
        exact lw_open hl i0 i5 c1 hS hMS hI hnext
      · refine wp_tsi (off := 344) (t := 376) dL_law_32 (by decide) (by decide) (by decide) rfl ?_
        exact lw_match hl i0 i5 c1 hS hMS hI hnext
      · refine wp_tsi (off := 377) (t := 409) dL_law_32 (by decide) (by decide) (by decide) rfl ?_
        exact lw_reach hl i0 i5 c1 hS hMS hI hnext
      · refine wp_tsi (off := 437) (t := 469) dL_law_32 (by decide) (by decide) (by decide) rfl ?_
        exact lw_meet hl i0 i5 c1 hS hMS hI hnext
      · refine wp_tsi (off := 507) (t := 539) dL_law_32 (by decide) (by decide) (by decide) rfl ?_
        exact lw_can hl i0 i5 c1 hS hMS hI hnext
      · refine wp_tsi (off := 530) (t := 562) dL_law_32 (by decide) (by decide) (by decide) rfl ?_
        exact lw_draws hl i0 i5 c1 hS hMS hI hnext
      · refine wp_tsi (off := 543) (t := 575) dL_law_32 (by decide) (by decide) (by decide) rfl ?_
        exact lw_draw hl i0 i5 c1 hS hMS hI hnext
      · refine wp_tsi (off := 576) (t := 608) dL_law_32 (by decide) (by decide) (by decide) rfl ?_
        exact lw_lay hl i0 i5 c1 hS hMS hI hnext
      · refine wp_tsi (off := 599) (t := 631) dL_law_32 (by decide) (by decide) (by decide) rfl ?_
        exact lw_like hl i0 i5 c1 hS hMS hI hnext
      · refine wp_tsi (off := 612) (t := 644) dL_law_32 (by decide) (by decide) (by decide) rfl ?_
        exact lw_best hl i0 i5 c1 hS hMS hI hnext
      · refine wp_tsi (off := 661) (t := 693) dL_law_32 (by decide) (by decide) (by decide) rfl ?_
        exact lw_wins hl i0 i5 c1 hS hMS hI hnext
      · refine wp_tsi (off := 721) (t := 753) dL_law_32 (by decide) (by decide) (by decide) rfl ?_
        exact lw_mean hl i0 i5 c1 hS hMS hI hnext
      · refine wp_tsi (off := 771) (t := 803) dL_law_32 (by decide) (by decide) (by decide) rfl ?_
        exact lw_first hl i0 i5 c1 hS hMS hI hnext
      · refine wp_tsi (off := 814) (t := 846) dL_law_32 (by decide) (by decide) (by decide) rfl ?_
        exact lw_count hl i0 i5 c1 hS hMS hI hnext
      · refine wp_tso (t := 869) dL_law_32 hts rfl ?_
        exact hnext _ _ _ _ _ _ _ c1 hS hMS hI
theorem lw_all (xl : List Int) (hl : xl.length ≤ 2560) : Wp 40 mL_law 0 (mArgs 4 [mR 1]) [] [mJ mPT, mA xl] (30, 8763) (fun r _ => r = some (mI 1)) := by
  show Wp 40 mL_law 0 [mR 1, mU, mU, mU] [] [mJ mPT, mA xl] (30, 8763) _
  have hQ : ∀ h : List mC, (fun (r : Option mV) (_ : List mC) => r = some (mI 1)) (some (mI 1)) h := fun _ => rfl
  generalize (fun (r : Option mV) (_ : List mC) => r = some (mI 1)) = Q at hQ ⊢
  have l0 : ([mJ mPT, mA xl] : List mC).length = 2 := rfl
  have c1 : ([mJ mPT, mA xl] : List mC)[1]? = some (mA xl) := rfl
  have p0 : ([mJ mPT, mA xl] : List mC)[0]? = some (mJ mPT) := rfl
  generalize ([mJ mPT, mA xl] : List mC) = h0 at *
  refine wp_new (q := 3) (mc' := 29) (ms' := 8757) (D := [mU, mU, mU, mU, mI 0, mI 0]) dL_law_0 rfl n0 rfl rfl rfl ?_
  rw [l0]
  have l1 : (h0 ++ [mO 3 [mU, mU, mU, mU, mI 0, mI 0]]).length = 2 + 1 := ga_len l0 rfl
  have d1 : (h0 ++ [mO 3 [mU, mU, mU, mU, mI 0, mI 0]])[2]? = some (mO 3 [mU, mU, mU, mU, mI 0, mI 0]) := ga_eq l0
  have e1 : (h0 ++ [mO 3 [mU, mU, mU, mU, mI 0, mI 0]])[1]? = some (mA xl) := ga_lt c1
  have p1 : (h0 ++ [mO 3 [mU, mU, mU, mU, mI 0, mI 0]])[0]? = some (mJ mPT) := ga_lt p0
  clear l0 c1 p0
  generalize h0 ++ [mO 3 [mU, mU, mU, mU, mI 0, mI 0]] = h1 at *
  refine wp_dupR (q := 4) dL_law_3 rfl (wp_i0 (q := 7) (mc2 := 14) (ms2 := 3470) dL_law_4 rfl q0 (Nat.le_of_ble_eq_true rfl) rfl (by decide) d1 rfl rfl ((ci_X3 0 (k := 2) (by decide) d1 l1 p1).up (by omega)) (fun r h2 z => ⟨z.1, rfl, z.2⟩) (fun h2 z => ?_))
  obtain ⟨-, l2, hS, z⟩ := z
  have l2 : h2.length = 18 := l2
  have e2 : h2[1]? = some (mA xl) := (z 1 (by decide)).trans e1
  clear l1 d1 e1 p1 z
  refine wp_as1 (q := 8) dL_law_7 rfl rfl (wp_new (q := 11) (mc' := 13) (ms' := 3451) (D := [mI 0, mI 0, mU, mU, mU, mU, mU, mU, mU, mU, mU, mU, mU, mU, mL 0, mL 0, mI 0, mI 0, mU]) dL_law_8 rfl n4 rfl rfl rfl ?_)
  rw [l2]
  have l3 : (h2 ++ [mO 4 [mI 0, mI 0, mU, mU, mU, mU, mU, mU, mU, mU, mU, mU, mU, mU, mL 0, mL 0, mI 0, mI 0, mU]]).length = 18 + 1 := ga_len l2 rfl
  have d3 : (h2 ++ [mO 4 [mI 0, mI 0, mU, mU, mU, mU, mU, mU, mU, mU, mU, mU, mU, mU, mL 0, mL 0, mI 0, mI 0, mU]])[18]? = some (mO 4 [mI 0, mI 0, mU, mU, mU, mU, mU, mU, mU, mU, mU, mU, mU, mU, mL 0, mL 0, mI 0, mI 0, mU]) := ga_eq l2
  have e3 : (h2 ++ [mO 4 [mI 0, mI 0, mU, mU, mU, mU, mU, mU, mU, mU, mU, mU, mU, mU, mL 0, mL 0, mI 0, mI 0, mU]])[1]? = some (mA xl) := ga_lt e2
  have hS3 : CS (h2 ++ [mO 4 [mI 0, mI 0, mU, mU, mU, mU, mU, mU, mU, mU, mU, mU, mU, mU, mL 0, mL 0, mI 0, mI 0, mU]]) 2 2 8 (List.replicate 64 6) (List.replicate 64 1) (List.replicate 8 8) (List.replicate 8 8) := CSx.fr hS (fun j hj => fr_app l2 hj)
  clear l2 e2 hS
  generalize h2 ++ [mO 4 [mI 0, mI 0, mU, mU, mU, mU, mU, mU, mU, mU, mU, mU, mU, mU, mL 0, mL 0, mI 0, mI 0, mU]] = h3 at *
  refine wp_dupR (q := 12) dL_law_11 rfl (wp_i0 (q := 15) (mc2 := 0) (ms2 := 0) dL_law_12 rfl q117 (Nat.le_of_ble_eq_true rfl) rfl (by decide) d3 rfl rfl ((ci_X4 0 (k := 18) (by decide) d3 l3).up (by omega)) (fun r h2 z => ⟨z.1, rfl, z.2⟩) (fun h4 z => ?_))
  obtain ⟨-, hM, z⟩ := z
  have e4 : h4[1]? = some (mA xl) := (z 1 (by decide)).trans e3
  have hS4 := CSx.fr hS3 (fun j hj => z j hj)
  clear l3 d3 e3 z hS3
  refine wp_as2 (q := 16) dL_law_15 rfl rfl (wp_ic (q := 17) dL_law_16 rfl (by decide) (by decide) (wp_is3 (q := 18) dL_law_17 rfl rfl ?_))
  exact lw_loop hl hQ (xl.length + 1) h4 2 8 _ _ _ _ 0 (by omega) (by decide) (by decide) e4 hS4 hM (Inv_new (by decide) (by decide))
theorem whole_start {p : Program} {e : Env} {s : State} {m : MethodId} {below : List Frame} {meth : Method} {c : Code} (l : Launch) (hflags : l.flags = flags0) {b L : Nat} {xs : Nat → Int32} (hL : L ≤ 2560) (C0 : lw_At p s m meth c b L xs) : W p l e room_1 s m #[Value.ref b] below meth c s.heap [] 0 0 (lw_Z below #[Value.ref b] s) (entryFrame m ([Value.ref b] : List Value).toArray 4) :=
  start_of (fun xl h _ => lw_all xl h) l hL C0
