/-! the model: list (rows laid by wip/whole) -/
/-- the rows that the search still finds at a place from the k-th value on -/
def tlD (n sz : Nat) (ro : List Int) (k q : Nat) (pr : List Int) : List (List Int) := ((valN n).drop k).flatMap (fun v => if PL n sz ro pr v = true then dfs (valN n) (PL n sz ro) q (pr ++ [v]) else [])
def vvK (n k : Nat) : Int := if k < n then k else 8
def lsK (n k : Nat) : Int := if k ≤ n then (k : Int) - 1 else 8
theorem valN_len {n : Nat} : (valN n).length = n + 1 := by unfold valN; rw [List.length_append, List.length_map, List.length_range]; rfl
theorem tlD_s {n sz k q : Nat} {ro pr : List Int} (hk : k ≤ n) : tlD n sz ro k q pr = (if PL n sz ro pr (vvK n k) = true then dfs (valN n) (PL n sz ro) q (pr ++ [vvK n k]) else []) ++ tlD n sz ro (k + 1) q pr := by
  have hl : k < (valN n).length := by rw [valN_len]; omega
  have hv : (valN n)[k]? = some (vvK n k) := by
    unfold valN vvK
    have l1 : ((List.range n).map (fun p : Nat => (p : Int))).length = n := by rw [List.length_map, List.length_range]
    by_cases c : k < n
    · rw [if_pos c, List.getElem?_append_left (by rw [l1]; exact c), List.getElem?_map, List.getElem?_range c]
      rfl
    · rw [if_neg c, List.getElem?_append_right (by rw [l1]; omega), l1, show k - n = 0 by omega]
      rfl
  have hv : (valN n)[k] = vvK n k := by
    rw [List.getElem?_eq_getElem hl] at hv
    injection hv
  unfold tlD
  rw [List.drop_eq_getElem_cons hl, List.flatMap_cons, hv]
theorem tlD_e {n sz q : Nat} {ro pr : List Int} : tlD n sz ro (n + 1) q pr = [] := by
  unfold tlD
  rw [List.drop_eq_nil_of_le (by rw [valN_len]; omega)]
  rfl
theorem tlD_0 {n sz q : Nat} {ro pr : List Int} : tlD n sz ro 0 q pr = dfs (valN n) (PL n sz ro) (q + 1) pr := rfl
theorem lsK_s {n k : Nat} (hk : k ≤ n) : lsK n (k + 1) = vvK n k := by
  unfold lsK vvK
  by_cases c : k < n
  · rw [if_pos (by omega), if_pos c]; omega
  · rw [if_neg (by omega), if_neg c]
theorem RwA_app {X : List (List Int)} {r dn dn' : List Int} (h : RwA X dn) (hq : ∀ q : Nat, q < 8 → gI dn' (8 * (X.length : Nat) + q) = gI r q) (ht : ∀ t : Int, 0 ≤ t → t < 8 * (X.length : Nat) → gI dn' t = gI dn t) : RwA (X ++ [r]) dn' := by
  intro i x hi hx
  rw [List.length_append, List.length_singleton] at hi
  by_cases e : i = X.length
  · subst e
    rw [List.getD_eq_getElem?_getD, List.getElem?_append_right (Nat.le_refl _), Nat.sub_self, Int.mul_comm]
    exact hq x hx
  · rw [List.getD_eq_getElem?_getD, List.getElem?_append_left (by omega), ← List.getD_eq_getElem?_getD, ht _ (by omega) (by omega)]
    exact h i x (by omega) hx
/-- the search under way -/
def LsM (h h1 : List mC) (g n sz : Nat) (ch ro pl wm lf rt ws pt wh on tw : List Int) (wo wt : Int) (rw dn : List Int) (X : List (List Int)) : Prop := MU h1 g (n : Int) (sz : Int) ch ro pl wm lf rt ws rw pt wh on tw wo wt 1 (X.length : Nat) dn ∧ RwA X dn ∧ (∀ j : Nat, (j < g ∨ g + 14 ≤ j) → h1[j]? = h[j]?)
set_option maxHeartbeats 1000000 in
theorem ls_run (d : Nat) {h : List mC} {g n sz : Nat} {ch ro pl wm lf rt ws pt wh on tw : List Int} {wo wt : Int} (h2n : 2 ≤ n) (hle : n ≤ sz) (h8 : sz ≤ 8) {Q : Option mV → List mC → Prop} : ∀ (q : Nat) (pr : List Int), pr.length + q + 1 = sz → (∀ i : Nat, i < pr.length → 0 ≤ gI pr i ∧ gI pr i ≤ 8) → ∀ (m k : Nat), m + k = n + 1 → ∀ (h1 : List mC) (rw dn : List Int) (X : List (List Int)), LsM h h1 g n sz ch ro pl wm lf rt ws pt wh on tw wo wt rw dn X → gI rw (pr.length : Nat) = lsK n k → (∀ i : Nat, i < pr.length → gI rw i = gI pr i) → X.length + (tlD n sz ro k q pr).length ≤ 315 →
    (∀ (h2 : List mC) (rw2 dn2 : List Int), LsM h h2 g n sz ch ro pl wm lf rt ws pt wh on tw wo wt rw2 dn2 (X ++ (tlD n sz ro k q pr).map padL) → (∀ i : Nat, i < pr.length → gI rw2 i = gI pr i) → Wp (d + 3) mX4_list 39 [mR g, mI ((pr.length : Nat) - 1)] [] h2 (0, 0) Q) → Wp (d + 3) mX4_list 39 [mR g, mI (pr.length : Nat)] [] h1 (0, 0) Q := by
  intro q
  induction q with
  | zero =>
    intro pr hl hpr m
    induction m with
    | zero =>
      intro k hk h1 rw dn X hL hc hp hb hQ
      obtain ⟨hM, hX, hf⟩ := hL
      rw [show k = n + 1 by omega, tlD_e, List.map_nil, List.append_nil] at hQ
      rw [show lsK n k = 8 by unfold lsK; rw [if_neg (by omega)]] at hc
      have hc2 : rw.getD ((pr.length : Nat) : Int).toNat 0 = 8 := hc
      obtain ⟨m0, m1, mch, map, mpl, mwm, mlf, mrt, mws, mrw, mpt, mwh, mon, mtw, mdn, lch, lap, lpl, lwm, llf, lrt, lws, lrw, lpt, lwh, lon, ltw, ldn, m8⟩ := id hM
      have lrw0 := lrw
      have g1 : (sI rw (pr.length : Nat) (8 + 1)).getD ((pr.length : Nat) : Int).toNat 0 = 9 := gI_eq (by omega) (by omega)
      refine wp_il1 (q := 40) dX4_list_39 rfl (wp_if_lt (t := 129) (q := 43) dX4_list_40 rfl rfl (fun c40 => ?_) (fun c40 => ?_))
      · exfalso; omega
      · refine wp_al0 (q := 44) dX4_list_43 rfl (wp_getf (q := 47) dX4_list_44 rfl f31 m0 m1 rfl (fun z => nomatch z) (wp_il1 (q := 48) dX4_list_47 rfl (wp_dup2 (q := 49) dX4_list_48 rfl (wp_iaload (q := 50) dX4_list_49 rfl mrw (by omega) (by omega) ?_))))
        rw [hc2]
        refine wp_ic (q := 51) dX4_list_50 rfl (by decide) (by decide) (wp_iadd (q := 52) dX4_list_51 rfl (by omega) (by omega) (wp_iastore (q := 53) dX4_list_52 rfl (by omega) mrw (by omega) (by omega) ?_))
        have hM := hM.sRw (x := sI rw (pr.length : Nat) (8 + 1)) ((sI_len _ _ _).trans lrw0)
        obtain ⟨m0, m1, mch, map, mpl, mwm, mlf, mrt, mws, mrw, mpt, mwh, mon, mtw, mdn, lch, lap, lpl, lwm, llf, lrt, lws, lrw, lpt, lwh, lon, ltw, ldn, m8⟩ := id hM
        refine wp_al0 (q := 54) dX4_list_53 rfl (wp_getf (q := 57) dX4_list_54 rfl f31 m0 m1 rfl (fun z => nomatch z) (wp_il1 (q := 58) dX4_list_57 rfl (wp_iaload (q := 59) dX4_list_58 rfl mrw (by omega) (by omega) ?_)))
        rw [g1]
        refine wp_al0 (q := 60) dX4_list_59 rfl (wp_getf (q := 63) dX4_list_60 rfl f22 m0 m1 rfl (fun z => nomatch z) (wp_icmp_ne (t := 74) (q := 66) dX4_list_63 rfl rfl (fun c63 => ?_) (fun c63 => ?_)))
        · refine wp_al0 (q := 75) dX4_list_74 rfl (wp_getf (q := 78) dX4_list_75 rfl f31 m0 m1 rfl (fun z => nomatch z) (wp_il1 (q := 79) dX4_list_78 rfl (wp_iaload (q := 80) dX4_list_79 rfl mrw (by omega) (by omega) ?_)))
          rw [g1]
          refine wp_bi (q := 82) dX4_list_80 rfl (by decide) (by decide) (wp_icmp_le (t := 91) (q := 85) dX4_list_82 rfl rfl (fun c82 => ?_) (fun c82 => ?_))
          · exfalso; omega
          · refine wp_ii1 (q := 88) dX4_list_85 rfl rfl (by omega) (by omega) (wp_goto (q := 39) dX4_list_88 rfl ?_)
            exact hQ _ _ _ ⟨hM, hX, fun j hj => by rw [fr_set (by omega)]; exact hf j hj⟩ (fun i hi => by rw [gI_ne (by omega) (by omega) (by omega)]; exact hp i hi)
        · exfalso; omega
    | succ m ihm =>
      intro k hk h1 rw dn X hL hc hp hb hQ
      obtain ⟨hM, hX, hf⟩ := hL
      have hkn : k ≤ n := by omega
      rw [show lsK n k = (k : Int) - 1 by unfold lsK; rw [if_pos hkn]] at hc
      have hc2 : rw.getD ((pr.length : Nat) : Int).toNat 0 = (k : Int) - 1 := hc
      rw [tlD_s hkn] at hQ hb
      rw [List.map_append, ← List.append_assoc] at hQ
      rw [List.length_append] at hb
      have hvv : 0 ≤ vvK n k ∧ vvK n k ≤ 8 := by unfold vvK; split <;> omega
      obtain ⟨v, hv⟩ : ∃ v, v = vvK n k := ⟨_, rfl⟩
      have hls := lsK_s hkn
      rw [← hv] at hQ hb hvv hls
      have hpr2 : ∀ i : Nat, i < (pr ++ [v]).length → 0 ≤ gI (pr ++ [v]) i ∧ gI (pr ++ [v]) i ≤ 8 := fun i hi => by
        rw [List.length_append, List.length_singleton] at hi
        by_cases e : i = pr.length
        · subst e; rw [gI_last]; exact hvv
        · rw [gI_init (by omega)]; exact hpr i (by omega)
      have hl2 : (pr ++ [v]).length = pr.length + 1 := by rw [List.length_append, List.length_singleton]
      have h74 : ∀ (h2 : List mC) (rw2 : List Int), MU h2 g (n : Int) (sz : Int) ch ro pl wm lf rt ws rw2 pt wh on tw wo wt 1 (X.length : Nat) dn → gI rw2 (pr.length : Nat) = v → (∀ i : Nat, i < pr.length → gI rw2 i = gI pr i) → (∀ j : Nat, (j < g ∨ g + 14 ≤ j) → h2[j]? = h[j]?) → Wp (d + 3) mX4_list 74 [mR g, mI (pr.length : Nat)] [] h2 (0, 0) Q := by
        intro h2 rw2 hM hv2 hp2 hf2
        have hag : ∀ i : Nat, i < (pr ++ [v]).length → gI rw2 i = gI (pr ++ [v]) i := fun i hi => by
          rw [hl2] at hi
          by_cases e : i = pr.length
          · subst e; rw [gI_last]; exact hv2
          · rw [gI_init (by omega)]; exact hp2 i (by omega)
        have hfit : fitB n sz ro (gI rw2) pr.length = PL n sz ro pr v := fitB_congr (fun i hi => hag i (by rw [hl2]; omega))
        have hrg : ∀ i : Nat, i ≤ pr.length → 0 ≤ gI rw2 i ∧ gI rw2 i ≤ 8 := fun i hi => by rw [hag i (by rw [hl2]; omega)]; exact hpr2 i (by rw [hl2]; omega)
        have hv3 : rw2.getD ((pr.length : Nat) : Int).toNat 0 = v := hv2
        obtain ⟨m0, m1, mch, map, mpl, mwm, mlf, mrt, mws, mrw, mpt, mwh, mon, mtw, mdn, lch, lap, lpl, lwm, llf, lrt, lws, lrw, lpt, lwh, lon, ltw, ldn, m8⟩ := id hM
        refine wp_al0 (q := 75) dX4_list_74 rfl (wp_getf (q := 78) dX4_list_75 rfl f31 m0 m1 rfl (fun z => nomatch z) (wp_il1 (q := 79) dX4_list_78 rfl (wp_iaload (q := 80) dX4_list_79 rfl mrw (by omega) (by omega) ?_)))
        rw [hv3]
        refine wp_bi (q := 82) dX4_list_80 rfl (by decide) (by decide) (wp_icmp_le (t := 91) (q := 85) dX4_list_82 rfl rfl (fun c82 => ?_) (fun c82 => ?_))
        · refine wp_al0 (q := 92) dX4_list_91 rfl (wp_il1 (q := 93) dX4_list_92 rfl (wp_v1I (q := 96) dX4_list_93 rfl q157 (Nat.le_of_ble_eq_true rfl) rfl m0 m1 rfl rfl ((mt_fits 0 hM (by omega) (P := pr.length) (by omega) hrg).up (by omega)) (wp_ifb_eq (t := 39) (q := 99) dX4_list_96 rfl rfl (fun c96 => ?_) (fun c96 => ?_))))
          · first
              | (rw [hfit] at c96
                 rw [if_neg c96] at hb hQ
                 refine ihm (k + 1) (by omega) h2 rw2 dn X ⟨hM, hX, hf2⟩ (hv2.trans hls.symm) hp2 (by rw [List.length_nil, Nat.zero_add] at hb; exact hb) (fun h3 rw3 dn3 hL3 hp3 => hQ h3 rw3 dn3 (by rw [List.map_nil, List.append_nil]; exact hL3) hp3))
              | (rw [hfit] at c96
                 rw [if_pos c96] at hb hQ
                 refine ihm (k + 1) (by omega) _ rw2 dn1 (X ++ [padL (pr ++ [v])]) ⟨?_, RwA_app hX (fun q hq => ?_) k2, fun j hj => (hf9 j hj).trans (hf2 j hj)⟩ (hv2.trans hls.symm) hp2 ?_ (fun h3 rw3 dn3 hL3 hp3 => hQ h3 rw3 dn3 hL3 hp3)
                 · rw [List.length_append, List.length_singleton]
                   exact hM
                 · rw [k1 q (by omega) (by omega)]
                   unfold padL
                   rw [gI_app]
                   by_cases c : q < (pr ++ [v]).length
                   · rw [if_pos c, if_pos (by omega)]; exact hag q c
                   · rw [if_neg c, if_neg (by omega), gI_rep, if_pos (by omega)]
                 · rw [List.length_append, List.length_singleton]
                   have : (dfs (valN n) (PL n sz ro) 0 (pr ++ [v])).length = 1 := rfl
                   omega)
          · refine wp_il1 (q := 100) dX4_list_99 rfl (wp_al0 (q := 101) dX4_list_100 rfl (wp_getf (q := 104) dX4_list_101 rfl f23 m0 m1 rfl (fun z => nomatch z) (wp_ic (q := 105) dX4_list_104 rfl (by decide) (by decide) (wp_isub (q := 106) dX4_list_105 rfl (by omega) (by omega) (wp_icmp_ne (t := 116) (q := 109) dX4_list_106 rfl rfl (fun c106 => ?_) (fun c106 => ?_))))))
            · exfalso; omega
            · have hd1 : (dfs (valN n) (PL n sz ro) 0 (pr ++ [v])).length = 1 := rfl
              have hx : X.length < 315 := by rw [hfit] at c96; rw [if_pos c96] at hb; omega
              refine wp_al0 (q := 110) dX4_list_109 rfl (wp_v0 (q := 113) dX4_list_110 rfl q160 (Nat.le_of_ble_eq_true rfl) rfl m0 m1 rfl rfl ((mt_keep 0 hM (by omega) (by omega) (by omega)).up (by omega)) (fun r9 h9 e9 => ?_))
              obtain ⟨rfl, ⟨dn1, hM, k1, k2⟩, hf9⟩ := e9
              show Wp _ _ _ _ [] _ _ _
              refine wp_goto (q := 39) dX4_list_113 rfl ?_
              first
                | (rw [hfit] at c96
                   rw [if_neg c96] at hb hQ
                   refine ihm (k + 1) (by omega) h2 rw2 dn X ⟨hM, hX, hf2⟩ (hv2.trans hls.symm) hp2 (by rw [List.length_nil, Nat.zero_add] at hb; exact hb) (fun h3 rw3 dn3 hL3 hp3 => hQ h3 rw3 dn3 (by rw [List.map_nil, List.append_nil]; exact hL3) hp3))
                | (rw [hfit] at c96
                   rw [if_pos c96] at hb hQ
                   refine ihm (k + 1) (by omega) _ rw2 dn1 (X ++ [padL (pr ++ [v])]) ⟨?_, RwA_app hX (fun q hq => ?_) k2, fun j hj => (hf9 j hj).trans (hf2 j hj)⟩ (hv2.trans hls.symm) hp2 ?_ (fun h3 rw3 dn3 hL3 hp3 => hQ h3 rw3 dn3 hL3 hp3)
                   · rw [List.length_append, List.length_singleton]
                     exact hM
                   · rw [k1 q (by omega) (by omega)]
                     unfold padL
                     rw [gI_app]
                     by_cases c : q < (pr ++ [v]).length
                     · rw [if_pos c, if_pos (by omega)]; exact hag q c
                     · rw [if_neg c, if_neg (by omega), gI_rep, if_pos (by omega)]
                   · rw [List.length_append, List.length_singleton]
                     have : (dfs (valN n) (PL n sz ro) 0 (pr ++ [v])).length = 1 := rfl
                     omega)
        · exfalso; omega
      obtain ⟨m0, m1, mch, map, mpl, mwm, mlf, mrt, mws, mrw, mpt, mwh, mon, mtw, mdn, lch, lap, lpl, lwm, llf, lrt, lws, lrw, lpt, lwh, lon, ltw, ldn, m8⟩ := id hM
      have lrw0 := lrw
      have g1 : (sI rw (pr.length : Nat) ((k : Int) - 1 + 1)).getD ((pr.length : Nat) : Int).toNat 0 = k := (gI_eq (by omega) (by omega)).trans (by omega)
      refine wp_il1 (q := 40) dX4_list_39 rfl (wp_if_lt (t := 129) (q := 43) dX4_list_40 rfl rfl (fun c40 => ?_) (fun c40 => ?_))
      · exfalso; omega
      · refine wp_al0 (q := 44) dX4_list_43 rfl (wp_getf (q := 47) dX4_list_44 rfl f31 m0 m1 rfl (fun z => nomatch z) (wp_il1 (q := 48) dX4_list_47 rfl (wp_dup2 (q := 49) dX4_list_48 rfl (wp_iaload (q := 50) dX4_list_49 rfl mrw (by omega) (by omega) ?_))))
        rw [hc2]
        refine wp_ic (q := 51) dX4_list_50 rfl (by decide) (by decide) (wp_iadd (q := 52) dX4_list_51 rfl (by omega) (by omega) (wp_iastore (q := 53) dX4_list_52 rfl (by omega) mrw (by omega) (by omega) ?_))
        have hM := hM.sRw (x := sI rw (pr.length : Nat) ((k : Int) - 1 + 1)) ((sI_len _ _ _).trans lrw0)
        obtain ⟨m0, m1, mch, map, mpl, mwm, mlf, mrt, mws, mrw, mpt, mwh, mon, mtw, mdn, lch, lap, lpl, lwm, llf, lrt, lws, lrw, lpt, lwh, lon, ltw, ldn, m8⟩ := id hM
        refine wp_al0 (q := 54) dX4_list_53 rfl (wp_getf (q := 57) dX4_list_54 rfl f31 m0 m1 rfl (fun z => nomatch z) (wp_il1 (q := 58) dX4_list_57 rfl (wp_iaload (q := 59) dX4_list_58 rfl mrw (by omega) (by omega) ?_)))
        rw [g1]
        refine wp_al0 (q := 60) dX4_list_59 rfl (wp_getf (q := 63) dX4_list_60 rfl f22 m0 m1 rfl (fun z => nomatch z) (wp_icmp_ne (t := 74) (q := 66) dX4_list_63 rfl rfl (fun c63 => ?_) (fun c63 => ?_)))
        · first
            | exact h74 _ _ hM ((gI_eq (by omega) (by omega)).trans (by rw [hv]; unfold vvK; rw [if_pos (by omega)]; omega)) (fun i hi => by rw [gI_ne (by omega) (by omega) (by omega)]; exact hp i hi) (fun j hj => by rw [fr_set (by omega)]; exact hf j hj)
            | exact h74 _ _ hM ((gI_eq (by omega) (by omega)).trans (by rw [hv]; unfold vvK; rw [if_neg (by omega)])) (fun i hi => by rw [gI_ne (by omega) (by omega) (by omega), gI_ne (by omega) (by omega) (by omega)]; exact hp i hi) (fun j hj => by rw [fr_set (by omega), fr_set (by omega)]; exact hf j hj)
        · refine wp_al0 (q := 67) dX4_list_66 rfl (wp_getf (q := 70) dX4_list_67 rfl f31 m0 m1 rfl (fun z => nomatch z) (wp_il1 (q := 71) dX4_list_70 rfl (wp_bi (q := 73) dX4_list_71 rfl (by decide) (by decide) (wp_iastore (q := 74) dX4_list_73 rfl (by omega) mrw (by omega) (by omega) ?_))))
          have hM := hM.sRw (x := sI (sI rw (pr.length : Nat) ((k : Int) - 1 + 1)) (pr.length : Nat) 8) ((sI_len _ _ _).trans lrw)
          first
            | exact h74 _ _ hM ((gI_eq (by omega) (by omega)).trans (by rw [hv]; unfold vvK; rw [if_pos (by omega)]; omega)) (fun i hi => by rw [gI_ne (by omega) (by omega) (by omega)]; exact hp i hi) (fun j hj => by rw [fr_set (by omega)]; exact hf j hj)
            | exact h74 _ _ hM ((gI_eq (by omega) (by omega)).trans (by rw [hv]; unfold vvK; rw [if_neg (by omega)])) (fun i hi => by rw [gI_ne (by omega) (by omega) (by omega), gI_ne (by omega) (by omega) (by omega)]; exact hp i hi) (fun j hj => by rw [fr_set (by omega), fr_set (by omega)]; exact hf j hj)
  | succ q ihq =>
    intro pr hl hpr m
    induction m with
    | zero =>
      intro k hk h1 rw dn X hL hc hp hb hQ
      obtain ⟨hM, hX, hf⟩ := hL
      rw [show k = n + 1 by omega, tlD_e, List.map_nil, List.append_nil] at hQ
      rw [show lsK n k = 8 by unfold lsK; rw [if_neg (by omega)]] at hc
      have hc2 : rw.getD ((pr.length : Nat) : Int).toNat 0 = 8 := hc
      obtain ⟨m0, m1, mch, map, mpl, mwm, mlf, mrt, mws, mrw, mpt, mwh, mon, mtw, mdn, lch, lap, lpl, lwm, llf, lrt, lws, lrw, lpt, lwh, lon, ltw, ldn, m8⟩ := id hM
      have lrw0 := lrw
      have g1 : (sI rw (pr.length : Nat) (8 + 1)).getD ((pr.length : Nat) : Int).toNat 0 = 9 := gI_eq (by omega) (by omega)
      refine wp_il1 (q := 40) dX4_list_39 rfl (wp_if_lt (t := 129) (q := 43) dX4_list_40 rfl rfl (fun c40 => ?_) (fun c40 => ?_))
      · exfalso; omega
      · refine wp_al0 (q := 44) dX4_list_43 rfl (wp_getf (q := 47) dX4_list_44 rfl f31 m0 m1 rfl (fun z => nomatch z) (wp_il1 (q := 48) dX4_list_47 rfl (wp_dup2 (q := 49) dX4_list_48 rfl (wp_iaload (q := 50) dX4_list_49 rfl mrw (by omega) (by omega) ?_))))
        rw [hc2]
        refine wp_ic (q := 51) dX4_list_50 rfl (by decide) (by decide) (wp_iadd (q := 52) dX4_list_51 rfl (by omega) (by omega) (wp_iastore (q := 53) dX4_list_52 rfl (by omega) mrw (by omega) (by omega) ?_))
        have hM := hM.sRw (x := sI rw (pr.length : Nat) (8 + 1)) ((sI_len _ _ _).trans lrw0)
        obtain ⟨m0, m1, mch, map, mpl, mwm, mlf, mrt, mws, mrw, mpt, mwh, mon, mtw, mdn, lch, lap, lpl, lwm, llf, lrt, lws, lrw, lpt, lwh, lon, ltw, ldn, m8⟩ := id hM
        refine wp_al0 (q := 54) dX4_list_53 rfl (wp_getf (q := 57) dX4_list_54 rfl f31 m0 m1 rfl (fun z => nomatch z) (wp_il1 (q := 58) dX4_list_57 rfl (wp_iaload (q := 59) dX4_list_58 rfl mrw (by omega) (by omega) ?_)))
        rw [g1]
        refine wp_al0 (q := 60) dX4_list_59 rfl (wp_getf (q := 63) dX4_list_60 rfl f22 m0 m1 rfl (fun z => nomatch z) (wp_icmp_ne (t := 74) (q := 66) dX4_list_63 rfl rfl (fun c63 => ?_) (fun c63 => ?_)))
        · refine wp_al0 (q := 75) dX4_list_74 rfl (wp_getf (q := 78) dX4_list_75 rfl f31 m0 m1 rfl (fun z => nomatch z) (wp_il1 (q := 79) dX4_list_78 rfl (wp_iaload (q := 80) dX4_list_79 rfl mrw (by omega) (by omega) ?_)))
          rw [g1]
          refine wp_bi (q := 82) dX4_list_80 rfl (by decide) (by decide) (wp_icmp_le (t := 91) (q := 85) dX4_list_82 rfl rfl (fun c82 => ?_) (fun c82 => ?_))
          · exfalso; omega
          · refine wp_ii1 (q := 88) dX4_list_85 rfl rfl (by omega) (by omega) (wp_goto (q := 39) dX4_list_88 rfl ?_)
            exact hQ _ _ _ ⟨hM, hX, fun j hj => by rw [fr_set (by omega)]; exact hf j hj⟩ (fun i hi => by rw [gI_ne (by omega) (by omega) (by omega)]; exact hp i hi)
        · exfalso; omega
    | succ m ihm =>
      intro k hk h1 rw dn X hL hc hp hb hQ
      obtain ⟨hM, hX, hf⟩ := hL
      have hkn : k ≤ n := by omega
      rw [show lsK n k = (k : Int) - 1 by unfold lsK; rw [if_pos hkn]] at hc
      have hc2 : rw.getD ((pr.length : Nat) : Int).toNat 0 = (k : Int) - 1 := hc
      rw [tlD_s hkn] at hQ hb
      rw [List.map_append, ← List.append_assoc] at hQ
      rw [List.length_append] at hb
      have hvv : 0 ≤ vvK n k ∧ vvK n k ≤ 8 := by unfold vvK; split <;> omega
      obtain ⟨v, hv⟩ : ∃ v, v = vvK n k := ⟨_, rfl⟩
      have hls := lsK_s hkn
      rw [← hv] at hQ hb hvv hls
      have hpr2 : ∀ i : Nat, i < (pr ++ [v]).length → 0 ≤ gI (pr ++ [v]) i ∧ gI (pr ++ [v]) i ≤ 8 := fun i hi => by
        rw [List.length_append, List.length_singleton] at hi
        by_cases e : i = pr.length
        · subst e; rw [gI_last]; exact hvv
        · rw [gI_init (by omega)]; exact hpr i (by omega)
      have hl2 : (pr ++ [v]).length = pr.length + 1 := by rw [List.length_append, List.length_singleton]
      have h74 : ∀ (h2 : List mC) (rw2 : List Int), MU h2 g (n : Int) (sz : Int) ch ro pl wm lf rt ws rw2 pt wh on tw wo wt 1 (X.length : Nat) dn → gI rw2 (pr.length : Nat) = v → (∀ i : Nat, i < pr.length → gI rw2 i = gI pr i) → (∀ j : Nat, (j < g ∨ g + 14 ≤ j) → h2[j]? = h[j]?) → Wp (d + 3) mX4_list 74 [mR g, mI (pr.length : Nat)] [] h2 (0, 0) Q := by
        intro h2 rw2 hM hv2 hp2 hf2
        have hag : ∀ i : Nat, i < (pr ++ [v]).length → gI rw2 i = gI (pr ++ [v]) i := fun i hi => by
          rw [hl2] at hi
          by_cases e : i = pr.length
          · subst e; rw [gI_last]; exact hv2
          · rw [gI_init (by omega)]; exact hp2 i (by omega)
        have hfit : fitB n sz ro (gI rw2) pr.length = PL n sz ro pr v := fitB_congr (fun i hi => hag i (by rw [hl2]; omega))
        have hrg : ∀ i : Nat, i ≤ pr.length → 0 ≤ gI rw2 i ∧ gI rw2 i ≤ 8 := fun i hi => by rw [hag i (by rw [hl2]; omega)]; exact hpr2 i (by rw [hl2]; omega)
        have hv3 : rw2.getD ((pr.length : Nat) : Int).toNat 0 = v := hv2
        obtain ⟨m0, m1, mch, map, mpl, mwm, mlf, mrt, mws, mrw, mpt, mwh, mon, mtw, mdn, lch, lap, lpl, lwm, llf, lrt, lws, lrw, lpt, lwh, lon, ltw, ldn, m8⟩ := id hM
        refine wp_al0 (q := 75) dX4_list_74 rfl (wp_getf (q := 78) dX4_list_75 rfl f31 m0 m1 rfl (fun z => nomatch z) (wp_il1 (q := 79) dX4_list_78 rfl (wp_iaload (q := 80) dX4_list_79 rfl mrw (by omega) (by omega) ?_)))
        rw [hv3]
        refine wp_bi (q := 82) dX4_list_80 rfl (by decide) (by decide) (wp_icmp_le (t := 91) (q := 85) dX4_list_82 rfl rfl (fun c82 => ?_) (fun c82 => ?_))
        · refine wp_al0 (q := 92) dX4_list_91 rfl (wp_il1 (q := 93) dX4_list_92 rfl (wp_v1I (q := 96) dX4_list_93 rfl q157 (Nat.le_of_ble_eq_true rfl) rfl m0 m1 rfl rfl ((mt_fits 0 hM (by omega) (P := pr.length) (by omega) hrg).up (by omega)) (wp_ifb_eq (t := 39) (q := 99) dX4_list_96 rfl rfl (fun c96 => ?_) (fun c96 => ?_))))
          · first
              | (rw [hfit] at c96
                 rw [if_neg c96] at hb hQ
                 refine ihm (k + 1) (by omega) h2 rw2 dn X ⟨hM, hX, hf2⟩ (hv2.trans hls.symm) hp2 (by rw [List.length_nil, Nat.zero_add] at hb; exact hb) (fun h3 rw3 dn3 hL3 hp3 => hQ h3 rw3 dn3 (by rw [List.map_nil, List.append_nil]; exact hL3) hp3))
              | (rw [hfit] at c96
                 rw [if_pos c96] at hb hQ
                 have hM := hM.sRw (x := sI rw2 ((pr.length : Nat) + 1) (-1)) ((sI_len _ _ _).trans lrw)
                 have hcast : ((pr.length : Nat) : Int) + 1 = ((pr ++ [v]).length : Nat) := by rw [hl2]; omega
                 rw [hcast]
                 rw [hcast] at hM
                 refine ihq (pr ++ [v]) (by rw [hl2]; omega) hpr2 (n + 1) 0 rfl _ _ dn X ⟨hM, hX, fun j hj => by rw [fr_set (by omega)]; exact hf2 j hj⟩ ?_ (fun i hi => ?_) ?_ (fun h3 rw3 dn3 hL3 hp3 => ?_)
                 · rw [gI_eq (by omega) (by rw [lrw]; omega)]
                   unfold lsK
                   rw [if_pos (Nat.zero_le _)]
                   rfl
                 · rw [gI_ne (by omega) (by omega) (by omega)]; exact hag i hi
                 · rw [tlD_0]; omega
                 · rw [show ((pr ++ [v]).length : Int) - 1 = ((pr.length : Nat) : Int) by rw [hl2]; omega]
                   refine ihm (k + 1) (by omega) h3 rw3 dn3 _ hL3 ?_ (fun i hi => ?_) ?_ (fun h4 rw4 dn4 hL4 hp4 => hQ h4 rw4 dn4 hL4 hp4)
                   · rw [hp3 _ (by rw [hl2]; omega), gI_last]; exact hls.symm
                   · rw [hp3 i (by rw [hl2]; omega), gI_init hi]
                   · rw [List.length_append, List.length_map, tlD_0]; omega)
          · refine wp_il1 (q := 100) dX4_list_99 rfl (wp_al0 (q := 101) dX4_list_100 rfl (wp_getf (q := 104) dX4_list_101 rfl f23 m0 m1 rfl (fun z => nomatch z) (wp_ic (q := 105) dX4_list_104 rfl (by decide) (by decide) (wp_isub (q := 106) dX4_list_105 rfl (by omega) (by omega) (wp_icmp_ne (t := 116) (q := 109) dX4_list_106 rfl rfl (fun c106 => ?_) (fun c106 => ?_))))))
            · refine wp_ii1 (q := 119) dX4_list_116 rfl rfl (by omega) (by omega) (wp_al0 (q := 120) dX4_list_119 rfl (wp_getf (q := 123) dX4_list_120 rfl f31 m0 m1 rfl (fun z => nomatch z) (wp_il1 (q := 124) dX4_list_123 rfl (wp_ic (q := 125) dX4_list_124 rfl (by decide) (by decide) (wp_iastore (q := 126) dX4_list_125 rfl (by omega) mrw (by omega) (by omega) (wp_goto (q := 39) dX4_list_126 rfl ?_))))))
              first
                | (rw [hfit] at c96
                   rw [if_neg c96] at hb hQ
                   refine ihm (k + 1) (by omega) h2 rw2 dn X ⟨hM, hX, hf2⟩ (hv2.trans hls.symm) hp2 (by rw [List.length_nil, Nat.zero_add] at hb; exact hb) (fun h3 rw3 dn3 hL3 hp3 => hQ h3 rw3 dn3 (by rw [List.map_nil, List.append_nil]; exact hL3) hp3))
                | (rw [hfit] at c96
                   rw [if_pos c96] at hb hQ
                   have hM := hM.sRw (x := sI rw2 ((pr.length : Nat) + 1) (-1)) ((sI_len _ _ _).trans lrw)
                   have hcast : ((pr.length : Nat) : Int) + 1 = ((pr ++ [v]).length : Nat) := by rw [hl2]; omega
                   rw [hcast]
                   rw [hcast] at hM
                   refine ihq (pr ++ [v]) (by rw [hl2]; omega) hpr2 (n + 1) 0 rfl _ _ dn X ⟨hM, hX, fun j hj => by rw [fr_set (by omega)]; exact hf2 j hj⟩ ?_ (fun i hi => ?_) ?_ (fun h3 rw3 dn3 hL3 hp3 => ?_)
                   · rw [gI_eq (by omega) (by rw [lrw]; omega)]
                     unfold lsK
                     rw [if_pos (Nat.zero_le _)]
                     rfl
                   · rw [gI_ne (by omega) (by omega) (by omega)]; exact hag i hi
                   · rw [tlD_0]; omega
                   · rw [show ((pr ++ [v]).length : Int) - 1 = ((pr.length : Nat) : Int) by rw [hl2]; omega]
                     refine ihm (k + 1) (by omega) h3 rw3 dn3 _ hL3 ?_ (fun i hi => ?_) ?_ (fun h4 rw4 dn4 hL4 hp4 => hQ h4 rw4 dn4 hL4 hp4)
                     · rw [hp3 _ (by rw [hl2]; omega), gI_last]; exact hls.symm
                     · rw [hp3 i (by rw [hl2]; omega), gI_init hi]
                     · rw [List.length_append, List.length_map, tlD_0]; omega)
            · exfalso; omega
        · exfalso; omega
      obtain ⟨m0, m1, mch, map, mpl, mwm, mlf, mrt, mws, mrw, mpt, mwh, mon, mtw, mdn, lch, lap, lpl, lwm, llf, lrt, lws, lrw, lpt, lwh, lon, ltw, ldn, m8⟩ := id hM
      have lrw0 := lrw
      have g1 : (sI rw (pr.length : Nat) ((k : Int) - 1 + 1)).getD ((pr.length : Nat) : Int).toNat 0 = k := (gI_eq (by omega) (by omega)).trans (by omega)
      refine wp_il1 (q := 40) dX4_list_39 rfl (wp_if_lt (t := 129) (q := 43) dX4_list_40 rfl rfl (fun c40 => ?_) (fun c40 => ?_))
      · exfalso; omega
      · refine wp_al0 (q := 44) dX4_list_43 rfl (wp_getf (q := 47) dX4_list_44 rfl f31 m0 m1 rfl (fun z => nomatch z) (wp_il1 (q := 48) dX4_list_47 rfl (wp_dup2 (q := 49) dX4_list_48 rfl (wp_iaload (q := 50) dX4_list_49 rfl mrw (by omega) (by omega) ?_))))
        rw [hc2]
        refine wp_ic (q := 51) dX4_list_50 rfl (by decide) (by decide) (wp_iadd (q := 52) dX4_list_51 rfl (by omega) (by omega) (wp_iastore (q := 53) dX4_list_52 rfl (by omega) mrw (by omega) (by omega) ?_))
        have hM := hM.sRw (x := sI rw (pr.length : Nat) ((k : Int) - 1 + 1)) ((sI_len _ _ _).trans lrw0)
        obtain ⟨m0, m1, mch, map, mpl, mwm, mlf, mrt, mws, mrw, mpt, mwh, mon, mtw, mdn, lch, lap, lpl, lwm, llf, lrt, lws, lrw, lpt, lwh, lon, ltw, ldn, m8⟩ := id hM
        refine wp_al0 (q := 54) dX4_list_53 rfl (wp_getf (q := 57) dX4_list_54 rfl f31 m0 m1 rfl (fun z => nomatch z) (wp_il1 (q := 58) dX4_list_57 rfl (wp_iaload (q := 59) dX4_list_58 rfl mrw (by omega) (by omega) ?_)))
        rw [g1]
        refine wp_al0 (q := 60) dX4_list_59 rfl (wp_getf (q := 63) dX4_list_60 rfl f22 m0 m1 rfl (fun z => nomatch z) (wp_icmp_ne (t := 74) (q := 66) dX4_list_63 rfl rfl (fun c63 => ?_) (fun c63 => ?_)))
        · first
            | exact h74 _ _ hM ((gI_eq (by omega) (by omega)).trans (by rw [hv]; unfold vvK; rw [if_pos (by omega)]; omega)) (fun i hi => by rw [gI_ne (by omega) (by omega) (by omega)]; exact hp i hi) (fun j hj => by rw [fr_set (by omega)]; exact hf j hj)
            | exact h74 _ _ hM ((gI_eq (by omega) (by omega)).trans (by rw [hv]; unfold vvK; rw [if_neg (by omega)])) (fun i hi => by rw [gI_ne (by omega) (by omega) (by omega), gI_ne (by omega) (by omega) (by omega)]; exact hp i hi) (fun j hj => by rw [fr_set (by omega), fr_set (by omega)]; exact hf j hj)
        · refine wp_al0 (q := 67) dX4_list_66 rfl (wp_getf (q := 70) dX4_list_67 rfl f31 m0 m1 rfl (fun z => nomatch z) (wp_il1 (q := 71) dX4_list_70 rfl (wp_bi (q := 73) dX4_list_71 rfl (by decide) (by decide) (wp_iastore (q := 74) dX4_list_73 rfl (by omega) mrw (by omega) (by omega) ?_))))
          have hM := hM.sRw (x := sI (sI rw (pr.length : Nat) ((k : Int) - 1 + 1)) (pr.length : Nat) 8) ((sI_len _ _ _).trans lrw)
          first
            | exact h74 _ _ hM ((gI_eq (by omega) (by omega)).trans (by rw [hv]; unfold vvK; rw [if_pos (by omega)]; omega)) (fun i hi => by rw [gI_ne (by omega) (by omega) (by omega)]; exact hp i hi) (fun j hj => by rw [fr_set (by omega)]; exact hf j hj)
            | exact h74 _ _ hM ((gI_eq (by omega) (by omega)).trans (by rw [hv]; unfold vvK; rw [if_neg (by omega)])) (fun i hi => by rw [gI_ne (by omega) (by omega) (by omega), gI_ne (by omega) (by omega) (by omega)]; exact hp i hi) (fun j hj => by rw [fr_set (by omega), fr_set (by omega)]; exact hf j hj)
def MSl := MSx (fun il => il = 1)
theorem ms_list (d : Nat) {h : List mC} {g n sz : Nat} {ch ro pl wi : List Int} (hS : MS h g n sz ch ro pl wi) (hI : Inv n sz ch ro pl wi) : Ct (d + 3) mX4_list [mR g] h (fun r9 h9 => r9 = none ∧ MSl h9 g n sz ch ro pl wi ∧ ∀ j : Nat, (j < g ∨ g + 14 ≤ j) → h9[j]? = h[j]?) := by
  obtain ⟨wm, lf, rt, ws, rw, pt, wh, on, tw, wo, wt, il, dr, dn, hM, hwm, hil, hdr, hf0⟩ := id hS
  obtain ⟨m0, m1, mch, map, mpl, mwm, mlf, mrt, mws, mrw, mpt, mwh, mon, mtw, mdn, lch, lap, lpl, lwm, llf, lrt, lws, lrw, lpt, lwh, lon, ltw, ldn, m8⟩ := id hM
  show Wp _ mX4_list 0 [mR g, mU] [] h (0, 0) _
  have hn := hI.hn
  have hs2 : sz = 2 ∨ sz = 4 ∨ sz = 8 := by omega
  refine wp_al0 (q := 1) dX4_list_0 rfl (wp_getf (q := 4) dX4_list_1 rfl f38 m0 m1 rfl (fun z => nomatch z) (wp_if_eq (t := 8) (q := 7) dX4_list_4 rfl rfl (fun c4 => ?_) (fun c4 => ?_)))
  · refine wp_al0 (q := 9) dX4_list_8 rfl (wp_ic (q := 10) dX4_list_9 rfl (by decide) (by decide) (wp_putf (q := 13) dX4_list_10 rfl f38 m0 m1 (Nat.le_of_ble_eq_true rfl) (Or.inr rfl) (fun z => absurd z (by decide)) ?_))
    have hM := hM.sIl (x := 1)
    obtain ⟨m0, m1, mch, map, mpl, mwm, mlf, mrt, mws, mrw, mpt, mwh, mon, mtw, mdn, lch, lap, lpl, lwm, llf, lrt, lws, lrw, lpt, lwh, lon, ltw, ldn, m8⟩ := id hM
    refine wp_al0 (q := 14) dX4_list_13 rfl (wp_ic (q := 15) dX4_list_14 rfl (by decide) (by decide) (wp_putf (q := 18) dX4_list_15 rfl f39 m0 m1 (Nat.le_of_ble_eq_true rfl) trivial (fun z => absurd z (by decide)) ?_))
    have hM := hM.sDr (x := 0)
    obtain ⟨m0, m1, mch, map, mpl, mwm, mlf, mrt, mws, mrw, mpt, mwh, mon, mtw, mdn, lch, lap, lpl, lwm, llf, lrt, lws, lrw, lpt, lwh, lon, ltw, ldn, m8⟩ := id hM
    refine wp_al0 (q := 19) dX4_list_18 rfl (wp_getf (q := 22) dX4_list_19 rfl f22 m0 m1 rfl (fun z => nomatch z) (wp_al0 (q := 23) dX4_list_22 rfl (wp_getf (q := 26) dX4_list_23 rfl f23 m0 m1 rfl (fun z => nomatch z) (wp_icmp_le (t := 30) (q := 29) dX4_list_26 rfl rfl (fun c26 => ?_) (fun c26 => ?_)))))
    · refine wp_ic (q := 31) dX4_list_30 rfl (by decide) (by decide) (wp_is1 (q := 32) dX4_list_31 rfl rfl (wp_al0 (q := 33) dX4_list_32 rfl (wp_getf (q := 36) dX4_list_33 rfl f31 m0 m1 rfl (fun z => nomatch z) (wp_ic (q := 37) dX4_list_36 rfl (by decide) (by decide) (wp_ic (q := 38) dX4_list_37 rfl (by decide) (by decide) (wp_iastore (q := 39) dX4_list_38 rfl (by omega) mrw (by omega) (by omega) ?_))))))
      have lrw0 := lrw
      have hM := hM.sRw (x := sI rw 0 (-1)) ((sI_len _ _ _).trans lrw0)
      obtain ⟨R1, R2⟩ := rowsO_dfs (n := n) (sz := sz) (ro := ro) hs2 hn.1 (by omega) hI.hro
      obtain ⟨q, hq⟩ : ∃ q, sz = q + 1 := ⟨sz - 1, by omega⟩
      have hd0 : (dfs (valN n) (PL n sz ro) sz []) = tlD n sz ro 0 q [] := by rw [tlD_0, hq]
      rw [hd0] at R1 R2
      refine ls_run (h := h) d hn.1 (by omega) (by omega) q [] (by rw [hq]; show 0 + q + 1 = q + 1; omega) (fun i hi => absurd hi (Nat.not_lt_zero i)) (n + 1) 0 rfl _ _ dn [] ⟨hM, fun i x hi => absurd hi (Nat.not_lt_zero i), fun j hj => by rw [fr_set (by omega), fr_set (by omega), fr_set (by omega)]⟩ ?_ (fun i hi => absurd hi (Nat.not_lt_zero i)) (by rw [List.length_nil, Nat.zero_add]; exact R2) (fun h2 rw2 dn2 hL2 hp2 => ?_)
      · show gI (sI rw 0 (-1)) 0 = lsK n 0
        rw [gI_eq (by omega) (by omega)]
        unfold lsK
        rw [if_pos (Nat.zero_le _)]
        rfl
      · rw [List.nil_append, ← R1] at hL2
        obtain ⟨hM, hX, hf2⟩ := hL2
        refine wp_il1 (q := 40) dX4_list_39 rfl (wp_if_lt (t := 129) (q := 43) dX4_list_40 rfl rfl (fun c40 => ?_) (fun c40 => ?_))
        · refine wp_vret dX4_list_129 rfl ?_
          exact ⟨rfl, ⟨wm, lf, rt, ws, rw2, pt, wh, on, tw, wo, wt, 1, _, dn2, hM, hwm, Or.inr rfl, fun _ => ⟨rfl, hX⟩, rfl⟩, hf2⟩
        · exfalso; change 0 ≤ ((0 : Nat) : Int) - 1 at c40; omega
    · refine wp_vret dX4_list_29 rfl ?_
      have e : rowsO n sz ro = [] := by unfold rowsO; rw [if_neg (by omega)]; rfl
      exact ⟨rfl, ⟨wm, lf, rt, ws, rw, pt, wh, on, tw, wo, wt, 1, 0, dn, hM, hwm, Or.inr rfl, fun _ => by rw [e]; exact ⟨rfl, fun i x hi => absurd hi (Nat.not_lt_zero i)⟩, rfl⟩, fun j hj => by rw [fr_set (by omega), fr_set (by omega)]⟩
  · refine wp_vret dX4_list_7 rfl ?_
    exact ⟨rfl, ⟨wm, lf, rt, ws, rw, pt, wh, on, tw, wo, wt, il, dr, dn, hM, hwm, hil, hdr, (by omega)⟩, fun _ _ => rfl⟩
